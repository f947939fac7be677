set_option maxHeartbeats 4000000 in
set_option maxRecDepth 100000 in
theorem law_case_reset (Rel : Nat → CS → CS → Prop) (HS : SimAll Rel) {p : Program} {l : Launch} {e : Env} {s : State} {m : MethodId} {below : List Frame} {meth : Method} {c : Code} {dC : Nat → ClassId} {dI : Nat → Nat → Nat} {ad1 ad2 : Nat → Nat} {ca1 ca2 : Nat → ClassId} {tS t2 qo : Nat} {cJ : ClassId} {b L : Nat} {xs : Nat → Int32} (hLn : L ≤ 256) (hl0 : l.stackTraces = false) (C0 : lw_At p s m meth c b L xs) (hK1 : va_K (dC, dI) vwCl (cty (dC, dI, ad1, ca1, tS)) s) (hK2 : va_K (dC, dI) vwCl (mty (dC, dI, ad2, ca2, t2)) s) (hK3 : va_K (dC, dI) vwCl [(cJ, .long)] s) (hZ : cz (dC, dI, ad1, ca1, tS) (fun q : Nat => s.heap.size ≤ q) s s.heap) (hT_peek : tP "java/lang/IndexOutOfBoundsException" 95 "no such word of MEMORY" (fun q : Nat => s.heap.size ≤ q) s s.heap) (hT_stored : tP "java/lang/IndexOutOfBoundsException" 108 "no such word of a SECTOR" (fun q : Nat => s.heap.size ≤ q) s s.heap) (hT_step : tP "java/lang/IllegalArgumentException" 120 "not 1 .. 5000 STEPS" (fun q : Nat => s.heap.size ≤ q) s s.heap) (hT_run : tP "java/lang/IllegalArgumentException" 131 "not 1 .. 20000 TICKS" (fun q : Nat => s.heap.size ≤ q) s s.heap) (hT_register : tP "java/lang/IndexOutOfBoundsException" 138 "no such register" (fun q : Nat => s.heap.size ≤ q) s s.heap) (k : Nat) (x4 : Int32) (st mt : CS) (ov : Nat → Int64) (H : Heap) (locs : List Loc) (ls : Array Slot) (h4 : 4 * k + 4 ≤ L) (ex4 : x4 = nI (4 * k)) (hR : Rel k st mt) (hL : LI (dC, dI) (dC, dI, ad1, ca1, tS) (dC, dI, ad2, ca2, t2) qo cJ (fun q : Nat => s.heap.size ≤ q) s st mt ov H locs) (hl : lv_has ls 7 [(0, .ref b), (1, .ref (ad1 0)), (2, .ref (ad2 0)), (3, .ref qo), (4, .int x4)])
    (ih : ∀ (k2 : Nat) (x4 : Int32) (st mt : CS) (ov : Nat → Int64) (H : Heap) (locs : List Loc) (ls : Array Slot), k2 = k + 1 → 4 * k2 ≤ L → x4 = nI (4 * k2) → Rel k2 st mt → LI (dC, dI) (dC, dI, ad1, ca1, tS) (dC, dI, ad2, ca2, t2) qo cJ (fun q : Nat => s.heap.size ≤ q) s st mt ov H locs → lv_has ls 7 [(0, .ref b), (1, .ref (ad1 0)), (2, .ref (ad2 0)), (3, .ref qo), (4, .int x4)] → W p l e room_1 s m #[Value.ref b] below meth c H locs (42 + k2) (S0n + 6 * k2) (lw_Z below #[Value.ref b] s) (F0 m 23 ls [])) : W p l e room_1 s m #[Value.ref b] below meth c H locs (42 + k) (S0n + 6 * k) (lw_Z below #[Value.ref b] s) (F0 m 124 ls []) := by
  obtain ⟨hx, hb, hr, hml, hown, hts, hX, hbl, hlocks, hgv⟩ := C0
  have hA : ∀ q : Nat, s.heap.size ≤ q → (fun q : Nat => s.heap.size ≤ q) q := fun _ h => h
  have hbA : ¬ (fun q : Nat => s.heap.size ≤ q) b := Nat.not_le.mpr hbl
  have hk64 : k < 64 := by omega
  have rc0 : room_1.cells = 175 := rfl
  have rs0 : room_1.slots = 79122 := rfl
  have s00 : S0n = 78068 := rfl
  have hcc : 42 + k ≤ room_1.cells := by omega
  have hss : S0n + 6 * k ≤ room_1.slots := by omega
  have hix1 : vp_in (x4 + (1 : Int32)) L := by rw [ex4]; exact ixL k 1 (by omega) (by omega) (by omega)
  have hcl1 : xs (x4 + (1 : Int32)).toNatClampNeg = xs (4 * k + 1) := by rw [ex4]; exact congrArg xs (clL k 1 (by omega) (by omega))
  have hix2 : vp_in (x4 + (2 : Int32)) L := by rw [ex4]; exact ixL k 2 (by omega) (by omega) (by omega)
  have hcl2 : xs (x4 + (2 : Int32)).toNatClampNeg = xs (4 * k + 2) := by rw [ex4]; exact congrArg xs (clL k 2 (by omega) (by omega))
  have hix3 : vp_in (x4 + (3 : Int32)) L := by rw [ex4]; exact ixL k 3 (by omega) (by omega) (by omega)
  have hcl3 : xs (x4 + (3 : Int32)).toNatClampNeg = xs (4 * k + 3) := by rw [ex4]; exact congrArg xs (clL k 3 (by omega) (by omega))
  obtain ⟨hO, hR2⟩ := HS.1 k st mt hk64 hR
  refine lv_aload_n hx hb dL_law_124 rfl (lv_at hl 1 rfl) ?_
  refine cy_Vv (As := []) (rest := []) ⟨hx, hb, hml, hown, hts⟩ (c_cPageBoard_reset l (dC, dI, ad1, ca1, tS) st ) (cwV 0 hts (gT_V (fun w h => wAX_in (wAll_in h)) (wLw_in (List.mem_of_getElem? (i := 4) rfl)) (wAX_in (wAll_in mw229)) (wAX_in (wAll_in mw230)) (wAX_in (wAll_in mw1)) (wAX_in (wAll_in mw231))) rfl rfl rfl yd_yX10_reset ⟨Nat.le_of_ble_eq_true rfl, Nat.le_of_ble_eq_true rfl⟩) (va_recv hK1 hL.1 (ci := 10) (q0 := 0) rfl rfl) hK1 hA hZ (cz_ok _) hL.1 hL.dc hL.2.2.2.2.2.2 rfl hl.1 rfl (Nat.le_of_ble_eq_true rfl) dL_law_125 ⟨hcc, hss⟩ (fun H locs hPn hkk hS => ?_)
  have hL : LI (dC, dI) (dC, dI, ad1, ca1, tS) (dC, dI, ad2, ca2, t2) qo cJ (fun q : Nat => s.heap.size ≤ q) s (cPageBoard_reset st) mt ov H locs := hL.cls hPn hkk hS
  refine lv_aload_n hx hb dL_law_128 rfl (lv_at hl 2 rfl) ?_
  refine cy_Vv (As := []) (rest := []) ⟨hx, hb, hml, hown, hts⟩ (c_m_reset l (dC, dI, ad2, ca2, t2) mt  hO) (cwV 0 hts (gT_V (fun w h => wAX_in (wAll_in h)) (wLw_in (List.mem_of_getElem? (i := 5) rfl)) (wAX_in (wAll_in mw205)) (wAX_in (wAll_in mw206)) (wAX_in (wAll_in mw3)) (wAX_in (wAll_in mw207))) rfl rfl rfl yd_yX11_reset ⟨Nat.le_of_ble_eq_true rfl, Nat.le_of_ble_eq_true rfl⟩) (va_recv hK2 hL.2.1 (ci := 11) (q0 := 0) rfl rfl) hK2 hA trivial (mz_ok _) hL.2.1 hL.dm hL.2.2.2.2.2.2 rfl hl.1 rfl (Nat.le_of_ble_eq_true rfl) dL_law_129 ⟨hcc, hss⟩ (fun H locs hPn hkk hS => ?_)
  have hL : LI (dC, dI) (dC, dI, ad1, ca1, tS) (dC, dI, ad2, ca2, t2) qo cJ (fun q : Nat => s.heap.size ≤ q) s (cPageBoard_reset st) (m_reset mt) ov H locs := hL.mdl hPn hkk hS
  refine lv_goto (tgt := 860) hx hb dL_law_132 (by decide) ?_
  obtain ⟨x5, ex5⟩ : ∃ y : Int32, y = x4 + 4 := ⟨_, rfl⟩
  refine lv_iinc (v := x5) (lv' := [(4, .int x5), (0, .ref b), (1, .ref (ad1 0)), (2, .ref (ad2 0)), (3, .ref qo)]) hx hb dL_law_860 hl (k := 4) rfl (by rw [ex5]; rfl) (by decide) rfl (fun ls hl => ?_)
  refine lv_goto (tgt := 23) hx hb dL_law_863 (by decide) ?_
  refine W.widen (k := 42 + (k + 1)) (n := S0n + 6 * (k + 1)) (by omega) (by omega) ?_
  exact ih (k + 1) x5 (cPageBoard_reset st) (m_reset mt) ov H locs ls (by omega) (by omega) (by rw [ex5, ex4]; exact nI_4 k) hR2 hL (lv_sub hl [1, 2, 3, 4, 0] rfl)
set_option maxHeartbeats 4000000 in
set_option maxRecDepth 100000 in
theorem law_case_poke (Rel : Nat → CS → CS → Prop) (HS : SimAll Rel) {p : Program} {l : Launch} {e : Env} {s : State} {m : MethodId} {below : List Frame} {meth : Method} {c : Code} {dC : Nat → ClassId} {dI : Nat → Nat → Nat} {ad1 ad2 : Nat → Nat} {ca1 ca2 : Nat → ClassId} {tS t2 qo : Nat} {cJ : ClassId} {b L : Nat} {xs : Nat → Int32} (hLn : L ≤ 256) (hl0 : l.stackTraces = false) (C0 : lw_At p s m meth c b L xs) (hK1 : va_K (dC, dI) vwCl (cty (dC, dI, ad1, ca1, tS)) s) (hK2 : va_K (dC, dI) vwCl (mty (dC, dI, ad2, ca2, t2)) s) (hK3 : va_K (dC, dI) vwCl [(cJ, .long)] s) (hZ : cz (dC, dI, ad1, ca1, tS) (fun q : Nat => s.heap.size ≤ q) s s.heap) (hT_peek : tP "java/lang/IndexOutOfBoundsException" 95 "no such word of MEMORY" (fun q : Nat => s.heap.size ≤ q) s s.heap) (hT_stored : tP "java/lang/IndexOutOfBoundsException" 108 "no such word of a SECTOR" (fun q : Nat => s.heap.size ≤ q) s s.heap) (hT_step : tP "java/lang/IllegalArgumentException" 120 "not 1 .. 5000 STEPS" (fun q : Nat => s.heap.size ≤ q) s s.heap) (hT_run : tP "java/lang/IllegalArgumentException" 131 "not 1 .. 20000 TICKS" (fun q : Nat => s.heap.size ≤ q) s s.heap) (hT_register : tP "java/lang/IndexOutOfBoundsException" 138 "no such register" (fun q : Nat => s.heap.size ≤ q) s s.heap) (k : Nat) (x4 : Int32) (st mt : CS) (ov : Nat → Int64) (H : Heap) (locs : List Loc) (ls : Array Slot) (h4 : 4 * k + 4 ≤ L) (ex4 : x4 = nI (4 * k)) (hR : Rel k st mt) (hL : LI (dC, dI) (dC, dI, ad1, ca1, tS) (dC, dI, ad2, ca2, t2) qo cJ (fun q : Nat => s.heap.size ≤ q) s st mt ov H locs) (hl : lv_has ls 7 [(0, .ref b), (1, .ref (ad1 0)), (2, .ref (ad2 0)), (3, .ref qo), (4, .int x4)])
    (ih : ∀ (k2 : Nat) (x4 : Int32) (st mt : CS) (ov : Nat → Int64) (H : Heap) (locs : List Loc) (ls : Array Slot), k2 = k + 1 → 4 * k2 ≤ L → x4 = nI (4 * k2) → Rel k2 st mt → LI (dC, dI) (dC, dI, ad1, ca1, tS) (dC, dI, ad2, ca2, t2) qo cJ (fun q : Nat => s.heap.size ≤ q) s st mt ov H locs → lv_has ls 7 [(0, .ref b), (1, .ref (ad1 0)), (2, .ref (ad2 0)), (3, .ref qo), (4, .int x4)] → W p l e room_1 s m #[Value.ref b] below meth c H locs (42 + k2) (S0n + 6 * k2) (lw_Z below #[Value.ref b] s) (F0 m 23 ls [])) : W p l e room_1 s m #[Value.ref b] below meth c H locs (42 + k) (S0n + 6 * k) (lw_Z below #[Value.ref b] s) (F0 m 135 ls []) := by
  obtain ⟨hx, hb, hr, hml, hown, hts, hX, hbl, hlocks, hgv⟩ := C0
  have hA : ∀ q : Nat, s.heap.size ≤ q → (fun q : Nat => s.heap.size ≤ q) q := fun _ h => h
  have hbA : ¬ (fun q : Nat => s.heap.size ≤ q) b := Nat.not_le.mpr hbl
  have hk64 : k < 64 := by omega
  have rc0 : room_1.cells = 175 := rfl
  have rs0 : room_1.slots = 79122 := rfl
  have s00 : S0n = 78068 := rfl
  have hcc : 42 + k ≤ room_1.cells := by omega
  have hss : S0n + 6 * k ≤ room_1.slots := by omega
  have hix1 : vp_in (x4 + (1 : Int32)) L := by rw [ex4]; exact ixL k 1 (by omega) (by omega) (by omega)
  have hcl1 : xs (x4 + (1 : Int32)).toNatClampNeg = xs (4 * k + 1) := by rw [ex4]; exact congrArg xs (clL k 1 (by omega) (by omega))
  have hix2 : vp_in (x4 + (2 : Int32)) L := by rw [ex4]; exact ixL k 2 (by omega) (by omega) (by omega)
  have hcl2 : xs (x4 + (2 : Int32)).toNatClampNeg = xs (4 * k + 2) := by rw [ex4]; exact congrArg xs (clL k 2 (by omega) (by omega))
  have hix3 : vp_in (x4 + (3 : Int32)) L := by rw [ex4]; exact ixL k 3 (by omega) (by omega) (by omega)
  have hcl3 : xs (x4 + (3 : Int32)).toNatClampNeg = xs (4 * k + 3) := by rw [ex4]; exact congrArg xs (clL k 3 (by omega) (by omega))
  obtain ⟨hO, hE, hR2⟩ := HS.2.1 k st mt (xs (4 * k + 1)) (xs (4 * k + 2)) (xs (4 * k + 3)) hk64 hR
  refine lv_aload_n hx hb dL_law_135 rfl (lv_at hl 1 rfl) ?_
  refine lv_aload_n hx hb dL_law_136 rfl (lv_at hl 0 rfl) ?_
  refine lv_iload hx hb dL_law_137 (lv_at hl 4 rfl) ?_
  refine lv_iconst (v := (1 : Int32)) hx hb dL_law_139 (by decide) ?_
  refine lv_iadd hx hb dL_law_140 ?_
  refine va_sld hx hb hX hbl hbA hL.2.2.2.2.2.2 hix1 dL_law_141 ?_
  rw [hcl1]
  refine lv_aload_n hx hb dL_law_142 rfl (lv_at hl 0 rfl) ?_
  refine lv_iload hx hb dL_law_143 (lv_at hl 4 rfl) ?_
  refine lv_iconst (v := (2 : Int32)) hx hb dL_law_145 (by decide) ?_
  refine lv_iadd hx hb dL_law_146 ?_
  refine va_sld hx hb hX hbl hbA hL.2.2.2.2.2.2 hix2 dL_law_147 ?_
  rw [hcl2]
  refine lv_aload_n hx hb dL_law_148 rfl (lv_at hl 0 rfl) ?_
  refine lv_iload hx hb dL_law_149 (lv_at hl 4 rfl) ?_
  refine lv_iconst (v := (3 : Int32)) hx hb dL_law_151 (by decide) ?_
  refine lv_iadd hx hb dL_law_152 ?_
  refine va_sld hx hb hX hbl hbA hL.2.2.2.2.2.2 hix3 dL_law_153 ?_
  rw [hcl3]
  refine cy_Vi (As := [.int (xs (4 * k + 1)), .int (xs (4 * k + 2)), .int (xs (4 * k + 3))]) (rest := []) ⟨hx, hb, hml, hown, hts⟩ (c_cPageBoard_poke l (dC, dI, ad1, ca1, tS) st (xs (4 * k + 1)) (xs (4 * k + 2)) (xs (4 * k + 3))) (cwV 3 hts (gT_V (fun w h => wAX_in (wAll_in h)) (wLw_in (List.mem_of_getElem? (i := 6) rfl)) (wAX_in (wAll_in mw232)) (wAX_in (wAll_in mw233)) (wAX_in (wAll_in mw1)) (wAX_in (wAll_in mw234))) rfl rfl rfl yd_yX10_poke ⟨Nat.le_of_ble_eq_true rfl, Nat.le_of_ble_eq_true rfl⟩) (va_recv hK1 hL.1 (ci := 10) (q0 := 0) rfl rfl) hK1 hA hZ (cz_ok _) hL.1 hL.dc hL.2.2.2.2.2.2 rfl hl.1 rfl (Nat.le_of_ble_eq_true rfl) dL_law_154 ⟨hcc, hss⟩ (fun H locs hPn hkk hS => ?_)
  have hL : LI (dC, dI) (dC, dI, ad1, ca1, tS) (dC, dI, ad2, ca2, t2) qo cJ (fun q : Nat => s.heap.size ≤ q) s (cPageBoard_poke st (xs (4 * k + 1)) (xs (4 * k + 2)) (xs (4 * k + 3))).1 mt ov H locs := hL.cls hPn hkk hS
  refine lv_aload_n hx hb dL_law_157 rfl (lv_at hl 2 rfl) ?_
  refine lv_aload_n hx hb dL_law_158 rfl (lv_at hl 0 rfl) ?_
  refine lv_iload hx hb dL_law_159 (lv_at hl 4 rfl) ?_
  refine lv_iconst (v := (1 : Int32)) hx hb dL_law_161 (by decide) ?_
  refine lv_iadd hx hb dL_law_162 ?_
  refine va_sld hx hb hX hbl hbA hL.2.2.2.2.2.2 hix1 dL_law_163 ?_
  rw [hcl1]
  refine lv_aload_n hx hb dL_law_164 rfl (lv_at hl 0 rfl) ?_
  refine lv_iload hx hb dL_law_165 (lv_at hl 4 rfl) ?_
  refine lv_iconst (v := (2 : Int32)) hx hb dL_law_167 (by decide) ?_
  refine lv_iadd hx hb dL_law_168 ?_
  refine va_sld hx hb hX hbl hbA hL.2.2.2.2.2.2 hix2 dL_law_169 ?_
  rw [hcl2]
  refine lv_aload_n hx hb dL_law_170 rfl (lv_at hl 0 rfl) ?_
  refine lv_iload hx hb dL_law_171 (lv_at hl 4 rfl) ?_
  refine lv_iconst (v := (3 : Int32)) hx hb dL_law_173 (by decide) ?_
  refine lv_iadd hx hb dL_law_174 ?_
  refine va_sld hx hb hX hbl hbA hL.2.2.2.2.2.2 hix3 dL_law_175 ?_
  rw [hcl3]
  refine cy_Vi (As := [.int (xs (4 * k + 1)), .int (xs (4 * k + 2)), .int (xs (4 * k + 3))]) (rest := [.int (cPageBoard_poke st (xs (4 * k + 1)) (xs (4 * k + 2)) (xs (4 * k + 3))).2]) ⟨hx, hb, hml, hown, hts⟩ (c_m_poke l (dC, dI, ad2, ca2, t2) mt (xs (4 * k + 1)) (xs (4 * k + 2)) (xs (4 * k + 3)) hO) (cwV 3 hts (gT_V (fun w h => wAX_in (wAll_in h)) (wLw_in (List.mem_of_getElem? (i := 7) rfl)) (wAX_in (wAll_in mw235)) (wAX_in (wAll_in mw236)) (wAX_in (wAll_in mw3)) (wAX_in (wAll_in mw237))) rfl rfl rfl yd_yX11_poke ⟨Nat.le_of_ble_eq_true rfl, Nat.le_of_ble_eq_true rfl⟩) (va_recv hK2 hL.2.1 (ci := 11) (q0 := 0) rfl rfl) hK2 hA trivial (mz_ok _) hL.2.1 hL.dm hL.2.2.2.2.2.2 rfl hl.1 rfl (Nat.le_of_ble_eq_true rfl) dL_law_176 ⟨hcc, hss⟩ (fun H locs hPn hkk hS => ?_)
  have hL : LI (dC, dI) (dC, dI, ad1, ca1, tS) (dC, dI, ad2, ca2, t2) qo cJ (fun q : Nat => s.heap.size ≤ q) s (cPageBoard_poke st (xs (4 * k + 1)) (xs (4 * k + 2)) (xs (4 * k + 3))).1 (m_poke mt (xs (4 * k + 1)) (xs (4 * k + 2)) (xs (4 * k + 3))).1 ov H locs := hL.mdl hPn hkk hS
  refine lv_icmp_eq (tgt := 860) hx hb dL_law_179 (by decide) (fun _ => ?_) (fun c9 => absurd hE c9)
  obtain ⟨x5, ex5⟩ : ∃ y : Int32, y = x4 + 4 := ⟨_, rfl⟩
  refine lv_iinc (v := x5) (lv' := [(4, .int x5), (0, .ref b), (1, .ref (ad1 0)), (2, .ref (ad2 0)), (3, .ref qo)]) hx hb dL_law_860 hl (k := 4) rfl (by rw [ex5]; rfl) (by decide) rfl (fun ls hl => ?_)
  refine lv_goto (tgt := 23) hx hb dL_law_863 (by decide) ?_
  refine W.widen (k := 42 + (k + 1)) (n := S0n + 6 * (k + 1)) (by omega) (by omega) ?_
  exact ih (k + 1) x5 (cPageBoard_poke st (xs (4 * k + 1)) (xs (4 * k + 2)) (xs (4 * k + 3))).1 (m_poke mt (xs (4 * k + 1)) (xs (4 * k + 2)) (xs (4 * k + 3))).1 ov H locs ls (by omega) (by omega) (by rw [ex5, ex4]; exact nI_4 k) hR2 hL (lv_sub hl [1, 2, 3, 4, 0] rfl)
set_option maxHeartbeats 4000000 in
set_option maxRecDepth 100000 in
theorem law_case_peek (Rel : Nat → CS → CS → Prop) (HS : SimAll Rel) {p : Program} {l : Launch} {e : Env} {s : State} {m : MethodId} {below : List Frame} {meth : Method} {c : Code} {dC : Nat → ClassId} {dI : Nat → Nat → Nat} {ad1 ad2 : Nat → Nat} {ca1 ca2 : Nat → ClassId} {tS t2 qo : Nat} {cJ : ClassId} {b L : Nat} {xs : Nat → Int32} (hLn : L ≤ 256) (hl0 : l.stackTraces = false) (C0 : lw_At p s m meth c b L xs) (hK1 : va_K (dC, dI) vwCl (cty (dC, dI, ad1, ca1, tS)) s) (hK2 : va_K (dC, dI) vwCl (mty (dC, dI, ad2, ca2, t2)) s) (hK3 : va_K (dC, dI) vwCl [(cJ, .long)] s) (hZ : cz (dC, dI, ad1, ca1, tS) (fun q : Nat => s.heap.size ≤ q) s s.heap) (hT_peek : tP "java/lang/IndexOutOfBoundsException" 95 "no such word of MEMORY" (fun q : Nat => s.heap.size ≤ q) s s.heap) (hT_stored : tP "java/lang/IndexOutOfBoundsException" 108 "no such word of a SECTOR" (fun q : Nat => s.heap.size ≤ q) s s.heap) (hT_step : tP "java/lang/IllegalArgumentException" 120 "not 1 .. 5000 STEPS" (fun q : Nat => s.heap.size ≤ q) s s.heap) (hT_run : tP "java/lang/IllegalArgumentException" 131 "not 1 .. 20000 TICKS" (fun q : Nat => s.heap.size ≤ q) s s.heap) (hT_register : tP "java/lang/IndexOutOfBoundsException" 138 "no such register" (fun q : Nat => s.heap.size ≤ q) s s.heap) (k : Nat) (x4 : Int32) (st mt : CS) (ov : Nat → Int64) (H : Heap) (locs : List Loc) (ls : Array Slot) (h4 : 4 * k + 4 ≤ L) (ex4 : x4 = nI (4 * k)) (hR : Rel k st mt) (hL : LI (dC, dI) (dC, dI, ad1, ca1, tS) (dC, dI, ad2, ca2, t2) qo cJ (fun q : Nat => s.heap.size ≤ q) s st mt ov H locs) (hl : lv_has ls 7 [(0, .ref b), (1, .ref (ad1 0)), (2, .ref (ad2 0)), (3, .ref qo), (4, .int x4)])
    (ih : ∀ (k2 : Nat) (x4 : Int32) (st mt : CS) (ov : Nat → Int64) (H : Heap) (locs : List Loc) (ls : Array Slot), k2 = k + 1 → 4 * k2 ≤ L → x4 = nI (4 * k2) → Rel k2 st mt → LI (dC, dI) (dC, dI, ad1, ca1, tS) (dC, dI, ad2, ca2, t2) qo cJ (fun q : Nat => s.heap.size ≤ q) s st mt ov H locs → lv_has ls 7 [(0, .ref b), (1, .ref (ad1 0)), (2, .ref (ad2 0)), (3, .ref qo), (4, .int x4)] → W p l e room_1 s m #[Value.ref b] below meth c H locs (42 + k2) (S0n + 6 * k2) (lw_Z below #[Value.ref b] s) (F0 m 23 ls [])) : W p l e room_1 s m #[Value.ref b] below meth c H locs (42 + k) (S0n + 6 * k) (lw_Z below #[Value.ref b] s) (F0 m 184 ls []) := by
  obtain ⟨hx, hb, hr, hml, hown, hts, hX, hbl, hlocks, hgv⟩ := C0
  have hA : ∀ q : Nat, s.heap.size ≤ q → (fun q : Nat => s.heap.size ≤ q) q := fun _ h => h
  have hbA : ¬ (fun q : Nat => s.heap.size ≤ q) b := Nat.not_le.mpr hbl
  have hk64 : k < 64 := by omega
  have rc0 : room_1.cells = 175 := rfl
  have rs0 : room_1.slots = 79122 := rfl
  have s00 : S0n = 78068 := rfl
  have hcc : 42 + k ≤ room_1.cells := by omega
  have hss : S0n + 6 * k ≤ room_1.slots := by omega
  have hix1 : vp_in (x4 + (1 : Int32)) L := by rw [ex4]; exact ixL k 1 (by omega) (by omega) (by omega)
  have hcl1 : xs (x4 + (1 : Int32)).toNatClampNeg = xs (4 * k + 1) := by rw [ex4]; exact congrArg xs (clL k 1 (by omega) (by omega))
  have hix2 : vp_in (x4 + (2 : Int32)) L := by rw [ex4]; exact ixL k 2 (by omega) (by omega) (by omega)
  have hcl2 : xs (x4 + (2 : Int32)).toNatClampNeg = xs (4 * k + 2) := by rw [ex4]; exact congrArg xs (clL k 2 (by omega) (by omega))
  have hix3 : vp_in (x4 + (3 : Int32)) L := by rw [ex4]; exact ixL k 3 (by omega) (by omega) (by omega)
  have hcl3 : xs (x4 + (3 : Int32)).toNatClampNeg = xs (4 * k + 3) := by rw [ex4]; exact congrArg xs (clL k 3 (by omega) (by omega))
  obtain ⟨hO, hTh⟩ := HS.2.2.1 k st mt (xs (4 * k + 1)) hk64 hR
  refine lv_aload_n hx hb dL_law_184 rfl (lv_at hl 1 rfl) ?_
  refine lv_aload_n hx hb dL_law_185 rfl (lv_at hl 0 rfl) ?_
  refine lv_iload hx hb dL_law_186 (lv_at hl 4 rfl) ?_
  refine lv_iconst (v := (1 : Int32)) hx hb dL_law_188 (by decide) ?_
  refine lv_iadd hx hb dL_law_189 ?_
  refine va_sld hx hb hX hbl hbA hL.2.2.2.2.2.2 hix1 dL_law_190 ?_
  rw [hcl1]
  refine lv_aload_n hx hb dL_law_191 rfl (lv_at hl 3 rfl) ?_
  obtain ⟨hFh, hpre⟩ := hPre hL.1 hL.2.2.1 hK1 hK3 (dleft (hL.d3 (b := mt))) hA hZ hT_peek hL.2.2.2.2.2.2
  refine va_calli (vx_runSW (As := [.ref (ad1 0), .int (xs (4 * k + 1)), .ref qo]) (rest := []) ⟨hx, hb, hml, hown, hts⟩ (c_L_peek l hl0 (dC, dI, ad1, ca1, tS) qo cJ st ov (xs (4 * k + 1)) H.size) (vx_cwSW 3 hts (gT_S (fun w h => h) (wLw_in (List.mem_of_getElem? (i := 8) rfl)) (wLw_in (List.mem_of_getElem? (i := 9) rfl)) (wLw_in (List.mem_of_getElem? (i := 10) rfl)) (wLw_in (List.mem_of_getElem? (i := 11) rfl))) rfl rfl rfl ydL_peek ⟨Nat.le_of_ble_eq_true rfl, Nat.le_of_ble_eq_true rfl⟩) ⟨hBlind _ _, fun U hU hW => ⟨rfl, hpre U hU hW⟩⟩ rfl rfl hl.1 rfl (lv_room (Nat.le_of_ble_eq_true rfl)) dL_law_192 ⟨by omega, by omega⟩) hL.2.2.2.2.2.2 (fun q _ h => hFh q h) hFh (fun r_ u t H1 locs ht hvm hw hB hz1 hk1 hS => ?_)
  obtain ⟨hB1, hB2⟩ := hB
  rw [ht] at hB1 hB2
  have hBm := keepO hL.d3 hL.2.1 hk1
  have hL : LI (dC, dI) (dC, dI, ad1, ca1, tS) (dC, dI, ad2, ca2, t2) qo cJ (fun q : Nat => s.heap.size ≤ q) s u.1 mt u.2 H1 locs := ⟨hB1, hBm, hB2, hL.2.2.2.1, hL.2.2.2.2.1, hL.2.2.2.2.2.1, hS⟩
  generalize H1 = H at hL ⊢
  have hcc : 42 + k + 1 ≤ room_1.cells := by omega
  have hss : S0n + 6 * k + 6 ≤ room_1.slots := by omega
  rcases hw with ⟨hx1, rfl, rfl⟩ | ⟨Z, hx1, rfl, rfl⟩
  · obtain ⟨-, hth, hR2⟩ := hTh.resolve_right (fun ⟨Z, q, _⟩ => by rw [hx1] at q; cases q)
    have hL : LI (dC, dI) (dC, dI, ad1, ca1, tS) (dC, dI, ad2, ca2, t2) qo cJ (fun q : Nat => s.heap.size ≤ q) s st mt ov H locs := hL
    refine lv_istore (lv' := [(5, .int (1 : Int32)), (0, .ref b), (1, .ref (ad1 0)), (2, .ref (ad2 0)), (3, .ref qo), (4, .int x4)]) hx hb dL_law_195 hl (by decide) rfl (fun ls hl => ?_)
    refine lv_aload_n hx hb dL_law_197 rfl (lv_at hl 3 rfl) ?_
    refine lv_aload_n hx hb dL_law_198 rfl (lv_at hl 1 rfl) ?_
    refine lv_iload hx hb dL_law_199 (lv_at hl 5 rfl) ?_
    refine lv_iconst (v := (1 : Int32)) hx hb dL_law_201 (by decide) ?_
    refine lv_iadd hx hb dL_law_202 ?_
    refine va_sld hx hb hX hbl hbA hL.2.2.2.2.2.2 hix1 dL_law_203 ?_
    rw [hcl1]
    refine cy_Vi (As := [.int (xs (4 * k + 1))]) (rest := []) ⟨hx, hb, hml, hown, hts⟩ (c_m_peek l (dC, dI, ad2, ca2, t2) mt (xs (4 * k + 1)) hO) (cwV 1 hts (gT_V (fun w h => wAX_in (wAll_in h)) (wLw_in (List.mem_of_getElem? (i := 14) rfl)) (wAX_in (wAll_in mw246)) (wAX_in (wAll_in mw247)) (wAX_in (wAll_in mw3)) (wAX_in (wAll_in mw248))) rfl rfl rfl yd_yX11_peek ⟨Nat.le_of_ble_eq_true rfl, Nat.le_of_ble_eq_true rfl⟩) (va_recv hK2 hL.2.1 (ci := 11) (q0 := 0) rfl rfl) hK2 hA trivial (mz_ok _) hL.2.1 hL.dm hL.2.2.2.2.2.2 rfl hl.1 rfl (Nat.le_of_ble_eq_true rfl) dL_law_204 ⟨hcc, hss⟩ (fun H locs hPn hkk hS => ?_)
    have hL : LI (dC, dI) (dC, dI, ad1, ca1, tS) (dC, dI, ad2, ca2, t2) qo cJ (fun q : Nat => s.heap.size ≤ q) s st (m_peek mt (xs (4 * k + 1))).1 ov H locs := hL.mdl hPn hkk hS
    refine lv_istore (lv' := [(6, .int (m_peek mt (xs (4 * k + 1))).2), (5, .int (1 : Int32)), (0, .ref b), (1, .ref (ad1 0)), (2, .ref (ad2 0)), (3, .ref qo), (4, .int x4)]) hx hb dL_law_207 hl (by decide) rfl (fun ls hl => ?_)
    refine lv_aload_n hx hb dL_law_209 rfl (lv_at hl 4 rfl) ?_
    refine cy_Vi (As := []) (rest := []) ⟨hx, hb, hml, hown, hts⟩ (c_m_thrown l (dC, dI, ad2, ca2, t2) (m_peek mt (xs (4 * k + 1))).1 ) (cwV 0 hts (gT_V (fun w h => wAX_in (wAll_in h)) (wLw_in (List.mem_of_getElem? (i := 15) rfl)) (wAX_in (wAll_in mw253)) (wAX_in (wAll_in mw254)) (wAX_in (wAll_in mw3)) (wAX_in (wAll_in mw255))) rfl rfl rfl yd_yX11_thrown ⟨Nat.le_of_ble_eq_true rfl, Nat.le_of_ble_eq_true rfl⟩) (va_recv hK2 hL.2.1 (ci := 11) (q0 := 0) rfl rfl) hK2 hA trivial (mz_ok _) hL.2.1 hL.dm hL.2.2.2.2.2.2 rfl hl.1 rfl (Nat.le_of_ble_eq_true rfl) dL_law_210 ⟨hcc, hss⟩ (fun H locs hPn hkk hS => ?_)
    have hL : LI (dC, dI) (dC, dI, ad1, ca1, tS) (dC, dI, ad2, ca2, t2) qo cJ (fun q : Nat => s.heap.size ≤ q) s st (m_peek mt (xs (4 * k + 1))).1 ov H locs := hL.mdl hPn hkk hS
    refine lv_iload hx hb dL_law_213 (lv_at hl 1 rfl) ?_
    refine lv_icmp_eq (tgt := 220) hx hb dL_law_215 (by decide) (fun _ => ?_) (fun c9 => absurd hth c9)
    refine lv_iload hx hb dL_law_220 (lv_at hl 1 rfl) ?_
    refine lv_if_ne (tgt := 237) hx hb dL_law_222 (by decide) (fun _ => ?_) (fun c9 => absurd c9 (by decide))
    refine lv_goto (tgt := 860) hx hb dL_law_237 (by decide) ?_
    obtain ⟨x5, ex5⟩ : ∃ y : Int32, y = x4 + 4 := ⟨_, rfl⟩
    refine lv_iinc (v := x5) (lv' := [(4, .int x5), (6, .int (m_peek mt (xs (4 * k + 1))).2), (5, .int (1 : Int32)), (0, .ref b), (1, .ref (ad1 0)), (2, .ref (ad2 0)), (3, .ref qo)]) hx hb dL_law_860 hl (k := 6) rfl (by rw [ex5]; rfl) (by decide) rfl (fun ls hl => ?_)
    refine lv_goto (tgt := 23) hx hb dL_law_863 (by decide) ?_
    refine W.widen (k := 42 + (k + 1)) (n := S0n + 6 * (k + 1)) (by omega) (by omega) ?_
    exact ih (k + 1) x5 st (m_peek mt (xs (4 * k + 1))).1 ov H locs ls (by omega) (by omega) (by rw [ex5, ex4]; exact nI_4 k) hR2 hL (lv_sub hl [3, 4, 5, 6, 0] rfl)
  · obtain ⟨Z2, q1, hth, hE, hR2⟩ := hTh.resolve_left (fun q => by rw [q.1] at hx1; cases hx1)
    obtain rfl : Z = Z2 := Option.some.inj (hx1.symm.trans q1)
    have hL : LI (dC, dI) (dC, dI, ad1, ca1, tS) (dC, dI, ad2, ca2, t2) qo cJ (fun q : Nat => s.heap.size ≤ q) s Z.1 mt (vp_updL ov (0 : Int32).toNatClampNeg Z.2.toInt64) H locs := hL
    refine lv_istore (lv' := [(5, .int (0 : Int32)), (0, .ref b), (1, .ref (ad1 0)), (2, .ref (ad2 0)), (3, .ref qo), (4, .int x4)]) hx hb dL_law_195 hl (by decide) rfl (fun ls hl => ?_)
    refine lv_aload_n hx hb dL_law_197 rfl (lv_at hl 3 rfl) ?_
    refine lv_aload_n hx hb dL_law_198 rfl (lv_at hl 1 rfl) ?_
    refine lv_iload hx hb dL_law_199 (lv_at hl 5 rfl) ?_
    refine lv_iconst (v := (1 : Int32)) hx hb dL_law_201 (by decide) ?_
    refine lv_iadd hx hb dL_law_202 ?_
    refine va_sld hx hb hX hbl hbA hL.2.2.2.2.2.2 hix1 dL_law_203 ?_
    rw [hcl1]
    refine cy_Vi (As := [.int (xs (4 * k + 1))]) (rest := []) ⟨hx, hb, hml, hown, hts⟩ (c_m_peek l (dC, dI, ad2, ca2, t2) mt (xs (4 * k + 1)) hO) (cwV 1 hts (gT_V (fun w h => wAX_in (wAll_in h)) (wLw_in (List.mem_of_getElem? (i := 14) rfl)) (wAX_in (wAll_in mw246)) (wAX_in (wAll_in mw247)) (wAX_in (wAll_in mw3)) (wAX_in (wAll_in mw248))) rfl rfl rfl yd_yX11_peek ⟨Nat.le_of_ble_eq_true rfl, Nat.le_of_ble_eq_true rfl⟩) (va_recv hK2 hL.2.1 (ci := 11) (q0 := 0) rfl rfl) hK2 hA trivial (mz_ok _) hL.2.1 hL.dm hL.2.2.2.2.2.2 rfl hl.1 rfl (Nat.le_of_ble_eq_true rfl) dL_law_204 ⟨hcc, hss⟩ (fun H locs hPn hkk hS => ?_)
    have hL : LI (dC, dI) (dC, dI, ad1, ca1, tS) (dC, dI, ad2, ca2, t2) qo cJ (fun q : Nat => s.heap.size ≤ q) s Z.1 (m_peek mt (xs (4 * k + 1))).1 (vp_updL ov (0 : Int32).toNatClampNeg Z.2.toInt64) H locs := hL.mdl hPn hkk hS
    refine lv_istore (lv' := [(6, .int (m_peek mt (xs (4 * k + 1))).2), (5, .int (0 : Int32)), (0, .ref b), (1, .ref (ad1 0)), (2, .ref (ad2 0)), (3, .ref qo), (4, .int x4)]) hx hb dL_law_207 hl (by decide) rfl (fun ls hl => ?_)
    refine lv_aload_n hx hb dL_law_209 rfl (lv_at hl 4 rfl) ?_
    refine cy_Vi (As := []) (rest := []) ⟨hx, hb, hml, hown, hts⟩ (c_m_thrown l (dC, dI, ad2, ca2, t2) (m_peek mt (xs (4 * k + 1))).1 ) (cwV 0 hts (gT_V (fun w h => wAX_in (wAll_in h)) (wLw_in (List.mem_of_getElem? (i := 15) rfl)) (wAX_in (wAll_in mw253)) (wAX_in (wAll_in mw254)) (wAX_in (wAll_in mw3)) (wAX_in (wAll_in mw255))) rfl rfl rfl yd_yX11_thrown ⟨Nat.le_of_ble_eq_true rfl, Nat.le_of_ble_eq_true rfl⟩) (va_recv hK2 hL.2.1 (ci := 11) (q0 := 0) rfl rfl) hK2 hA trivial (mz_ok _) hL.2.1 hL.dm hL.2.2.2.2.2.2 rfl hl.1 rfl (Nat.le_of_ble_eq_true rfl) dL_law_210 ⟨hcc, hss⟩ (fun H locs hPn hkk hS => ?_)
    have hL : LI (dC, dI) (dC, dI, ad1, ca1, tS) (dC, dI, ad2, ca2, t2) qo cJ (fun q : Nat => s.heap.size ≤ q) s Z.1 (m_peek mt (xs (4 * k + 1))).1 (vp_updL ov (0 : Int32).toNatClampNeg Z.2.toInt64) H locs := hL.mdl hPn hkk hS
    refine lv_iload hx hb dL_law_213 (lv_at hl 1 rfl) ?_
    refine lv_icmp_eq (tgt := 220) hx hb dL_law_215 (by decide) (fun _ => ?_) (fun c9 => absurd hth c9)
    refine lv_iload hx hb dL_law_220 (lv_at hl 1 rfl) ?_
    refine lv_if_ne (tgt := 237) hx hb dL_law_222 (by decide) (fun c9 => absurd rfl c9) (fun _ => ?_)
    refine lv_aload_n hx hb dL_law_225 rfl (lv_at hl 5 rfl) ?_
    refine lv_iconst (v := (0 : Int32)) hx hb dL_law_226 (by decide) ?_
    refine va_lald (f := (vp_updL ov (0 : Int32).toNatClampNeg Z.2.toInt64)) hx hb hK3 hL.2.2.1 0 0 rfl rfl (by unfold vp_in; decide) dL_law_227 ?_
    refine lv_iload hx hb dL_law_228 (lv_at hl 0 rfl) ?_
    refine lv_i2l (v := (m_peek mt (xs (4 * k + 1))).2.toInt64) hx hb dL_law_230 rfl ?_
    refine W.lcmp hx hb dL_law_231 ?_
    refine lv_if_eq (tgt := 237) hx hb dL_law_232 (by decide) (fun _ => ?_) (fun c9 => absurd (show lg_cmp (vp_updL ov (0 : Int32).toNatClampNeg Z.2.toInt64 (0 : Int32).toNatClampNeg) (m_peek mt (xs (4 * k + 1))).2.toInt64 = 0 by rw [pk_uLs, hE]; exact lgc _) c9)
    refine lv_goto (tgt := 860) hx hb dL_law_237 (by decide) ?_
    obtain ⟨x5, ex5⟩ : ∃ y : Int32, y = x4 + 4 := ⟨_, rfl⟩
    refine lv_iinc (v := x5) (lv' := [(4, .int x5), (6, .int (m_peek mt (xs (4 * k + 1))).2), (5, .int (0 : Int32)), (0, .ref b), (1, .ref (ad1 0)), (2, .ref (ad2 0)), (3, .ref qo)]) hx hb dL_law_860 hl (k := 6) rfl (by rw [ex5]; rfl) (by decide) rfl (fun ls hl => ?_)
    refine lv_goto (tgt := 23) hx hb dL_law_863 (by decide) ?_
    refine W.widen (k := 42 + (k + 1)) (n := S0n + 6 * (k + 1)) (by omega) (by omega) ?_
    exact ih (k + 1) x5 Z.1 (m_peek mt (xs (4 * k + 1))).1 (vp_updL ov (0 : Int32).toNatClampNeg Z.2.toInt64) H locs ls (by omega) (by omega) (by rw [ex5, ex4]; exact nI_4 k) hR2 hL (lv_sub hl [3, 4, 5, 6, 0] rfl)
set_option maxHeartbeats 4000000 in
set_option maxRecDepth 100000 in
theorem law_case_store (Rel : Nat → CS → CS → Prop) (HS : SimAll Rel) {p : Program} {l : Launch} {e : Env} {s : State} {m : MethodId} {below : List Frame} {meth : Method} {c : Code} {dC : Nat → ClassId} {dI : Nat → Nat → Nat} {ad1 ad2 : Nat → Nat} {ca1 ca2 : Nat → ClassId} {tS t2 qo : Nat} {cJ : ClassId} {b L : Nat} {xs : Nat → Int32} (hLn : L ≤ 256) (hl0 : l.stackTraces = false) (C0 : lw_At p s m meth c b L xs) (hK1 : va_K (dC, dI) vwCl (cty (dC, dI, ad1, ca1, tS)) s) (hK2 : va_K (dC, dI) vwCl (mty (dC, dI, ad2, ca2, t2)) s) (hK3 : va_K (dC, dI) vwCl [(cJ, .long)] s) (hZ : cz (dC, dI, ad1, ca1, tS) (fun q : Nat => s.heap.size ≤ q) s s.heap) (hT_peek : tP "java/lang/IndexOutOfBoundsException" 95 "no such word of MEMORY" (fun q : Nat => s.heap.size ≤ q) s s.heap) (hT_stored : tP "java/lang/IndexOutOfBoundsException" 108 "no such word of a SECTOR" (fun q : Nat => s.heap.size ≤ q) s s.heap) (hT_step : tP "java/lang/IllegalArgumentException" 120 "not 1 .. 5000 STEPS" (fun q : Nat => s.heap.size ≤ q) s s.heap) (hT_run : tP "java/lang/IllegalArgumentException" 131 "not 1 .. 20000 TICKS" (fun q : Nat => s.heap.size ≤ q) s s.heap) (hT_register : tP "java/lang/IndexOutOfBoundsException" 138 "no such register" (fun q : Nat => s.heap.size ≤ q) s s.heap) (k : Nat) (x4 : Int32) (st mt : CS) (ov : Nat → Int64) (H : Heap) (locs : List Loc) (ls : Array Slot) (h4 : 4 * k + 4 ≤ L) (ex4 : x4 = nI (4 * k)) (hR : Rel k st mt) (hL : LI (dC, dI) (dC, dI, ad1, ca1, tS) (dC, dI, ad2, ca2, t2) qo cJ (fun q : Nat => s.heap.size ≤ q) s st mt ov H locs) (hl : lv_has ls 7 [(0, .ref b), (1, .ref (ad1 0)), (2, .ref (ad2 0)), (3, .ref qo), (4, .int x4)])
    (ih : ∀ (k2 : Nat) (x4 : Int32) (st mt : CS) (ov : Nat → Int64) (H : Heap) (locs : List Loc) (ls : Array Slot), k2 = k + 1 → 4 * k2 ≤ L → x4 = nI (4 * k2) → Rel k2 st mt → LI (dC, dI) (dC, dI, ad1, ca1, tS) (dC, dI, ad2, ca2, t2) qo cJ (fun q : Nat => s.heap.size ≤ q) s st mt ov H locs → lv_has ls 7 [(0, .ref b), (1, .ref (ad1 0)), (2, .ref (ad2 0)), (3, .ref qo), (4, .int x4)] → W p l e room_1 s m #[Value.ref b] below meth c H locs (42 + k2) (S0n + 6 * k2) (lw_Z below #[Value.ref b] s) (F0 m 23 ls [])) : W p l e room_1 s m #[Value.ref b] below meth c H locs (42 + k) (S0n + 6 * k) (lw_Z below #[Value.ref b] s) (F0 m 240 ls []) := by
  obtain ⟨hx, hb, hr, hml, hown, hts, hX, hbl, hlocks, hgv⟩ := C0
  have hA : ∀ q : Nat, s.heap.size ≤ q → (fun q : Nat => s.heap.size ≤ q) q := fun _ h => h
  have hbA : ¬ (fun q : Nat => s.heap.size ≤ q) b := Nat.not_le.mpr hbl
  have hk64 : k < 64 := by omega
  have rc0 : room_1.cells = 175 := rfl
  have rs0 : room_1.slots = 79122 := rfl
  have s00 : S0n = 78068 := rfl
  have hcc : 42 + k ≤ room_1.cells := by omega
  have hss : S0n + 6 * k ≤ room_1.slots := by omega
  have hix1 : vp_in (x4 + (1 : Int32)) L := by rw [ex4]; exact ixL k 1 (by omega) (by omega) (by omega)
  have hcl1 : xs (x4 + (1 : Int32)).toNatClampNeg = xs (4 * k + 1) := by rw [ex4]; exact congrArg xs (clL k 1 (by omega) (by omega))
  have hix2 : vp_in (x4 + (2 : Int32)) L := by rw [ex4]; exact ixL k 2 (by omega) (by omega) (by omega)
  have hcl2 : xs (x4 + (2 : Int32)).toNatClampNeg = xs (4 * k + 2) := by rw [ex4]; exact congrArg xs (clL k 2 (by omega) (by omega))
  have hix3 : vp_in (x4 + (3 : Int32)) L := by rw [ex4]; exact ixL k 3 (by omega) (by omega) (by omega)
  have hcl3 : xs (x4 + (3 : Int32)).toNatClampNeg = xs (4 * k + 3) := by rw [ex4]; exact congrArg xs (clL k 3 (by omega) (by omega))
  obtain ⟨hO, hE, hR2⟩ := HS.2.2.2.1 k st mt (xs (4 * k + 1)) (xs (4 * k + 2)) (xs (4 * k + 3)) hk64 hR
  refine lv_aload_n hx hb dL_law_240 rfl (lv_at hl 1 rfl) ?_
  refine lv_aload_n hx hb dL_law_241 rfl (lv_at hl 0 rfl) ?_
  refine lv_iload hx hb dL_law_242 (lv_at hl 4 rfl) ?_
  refine lv_iconst (v := (1 : Int32)) hx hb dL_law_244 (by decide) ?_
  refine lv_iadd hx hb dL_law_245 ?_
  refine va_sld hx hb hX hbl hbA hL.2.2.2.2.2.2 hix1 dL_law_246 ?_
  rw [hcl1]
  refine lv_aload_n hx hb dL_law_247 rfl (lv_at hl 0 rfl) ?_
  refine lv_iload hx hb dL_law_248 (lv_at hl 4 rfl) ?_
  refine lv_iconst (v := (2 : Int32)) hx hb dL_law_250 (by decide) ?_
  refine lv_iadd hx hb dL_law_251 ?_
  refine va_sld hx hb hX hbl hbA hL.2.2.2.2.2.2 hix2 dL_law_252 ?_
  rw [hcl2]
  refine lv_aload_n hx hb dL_law_253 rfl (lv_at hl 0 rfl) ?_
  refine lv_iload hx hb dL_law_254 (lv_at hl 4 rfl) ?_
  refine lv_iconst (v := (3 : Int32)) hx hb dL_law_256 (by decide) ?_
  refine lv_iadd hx hb dL_law_257 ?_
  refine va_sld hx hb hX hbl hbA hL.2.2.2.2.2.2 hix3 dL_law_258 ?_
  rw [hcl3]
  refine cy_Vi (As := [.int (xs (4 * k + 1)), .int (xs (4 * k + 2)), .int (xs (4 * k + 3))]) (rest := []) ⟨hx, hb, hml, hown, hts⟩ (c_cPageBoard_store l (dC, dI, ad1, ca1, tS) st (xs (4 * k + 1)) (xs (4 * k + 2)) (xs (4 * k + 3))) (cwV 3 hts (gT_V (fun w h => wAX_in (wAll_in h)) (wLw_in (List.mem_of_getElem? (i := 16) rfl)) (wAX_in (wAll_in mw256)) (wAX_in (wAll_in mw257)) (wAX_in (wAll_in mw1)) (wAX_in (wAll_in mw258))) rfl rfl rfl yd_yX10_store ⟨Nat.le_of_ble_eq_true rfl, Nat.le_of_ble_eq_true rfl⟩) (va_recv hK1 hL.1 (ci := 10) (q0 := 0) rfl rfl) hK1 hA hZ (cz_ok _) hL.1 hL.dc hL.2.2.2.2.2.2 rfl hl.1 rfl (Nat.le_of_ble_eq_true rfl) dL_law_259 ⟨hcc, hss⟩ (fun H locs hPn hkk hS => ?_)
  have hL : LI (dC, dI) (dC, dI, ad1, ca1, tS) (dC, dI, ad2, ca2, t2) qo cJ (fun q : Nat => s.heap.size ≤ q) s (cPageBoard_store st (xs (4 * k + 1)) (xs (4 * k + 2)) (xs (4 * k + 3))).1 mt ov H locs := hL.cls hPn hkk hS
  refine lv_aload_n hx hb dL_law_262 rfl (lv_at hl 2 rfl) ?_
  refine lv_aload_n hx hb dL_law_263 rfl (lv_at hl 0 rfl) ?_
  refine lv_iload hx hb dL_law_264 (lv_at hl 4 rfl) ?_
  refine lv_iconst (v := (1 : Int32)) hx hb dL_law_266 (by decide) ?_
  refine lv_iadd hx hb dL_law_267 ?_
  refine va_sld hx hb hX hbl hbA hL.2.2.2.2.2.2 hix1 dL_law_268 ?_
  rw [hcl1]
  refine lv_aload_n hx hb dL_law_269 rfl (lv_at hl 0 rfl) ?_
  refine lv_iload hx hb dL_law_270 (lv_at hl 4 rfl) ?_
  refine lv_iconst (v := (2 : Int32)) hx hb dL_law_272 (by decide) ?_
  refine lv_iadd hx hb dL_law_273 ?_
  refine va_sld hx hb hX hbl hbA hL.2.2.2.2.2.2 hix2 dL_law_274 ?_
  rw [hcl2]
  refine lv_aload_n hx hb dL_law_275 rfl (lv_at hl 0 rfl) ?_
  refine lv_iload hx hb dL_law_276 (lv_at hl 4 rfl) ?_
  refine lv_iconst (v := (3 : Int32)) hx hb dL_law_278 (by decide) ?_
  refine lv_iadd hx hb dL_law_279 ?_
  refine va_sld hx hb hX hbl hbA hL.2.2.2.2.2.2 hix3 dL_law_280 ?_
  rw [hcl3]
  refine cy_Vi (As := [.int (xs (4 * k + 1)), .int (xs (4 * k + 2)), .int (xs (4 * k + 3))]) (rest := [.int (cPageBoard_store st (xs (4 * k + 1)) (xs (4 * k + 2)) (xs (4 * k + 3))).2]) ⟨hx, hb, hml, hown, hts⟩ (c_m_store l (dC, dI, ad2, ca2, t2) mt (xs (4 * k + 1)) (xs (4 * k + 2)) (xs (4 * k + 3)) hO) (cwV 3 hts (gT_V (fun w h => wAX_in (wAll_in h)) (wLw_in (List.mem_of_getElem? (i := 17) rfl)) (wAX_in (wAll_in mw266)) (wAX_in (wAll_in mw267)) (wAX_in (wAll_in mw3)) (wAX_in (wAll_in mw268))) rfl rfl rfl yd_yX11_store ⟨Nat.le_of_ble_eq_true rfl, Nat.le_of_ble_eq_true rfl⟩) (va_recv hK2 hL.2.1 (ci := 11) (q0 := 0) rfl rfl) hK2 hA trivial (mz_ok _) hL.2.1 hL.dm hL.2.2.2.2.2.2 rfl hl.1 rfl (Nat.le_of_ble_eq_true rfl) dL_law_281 ⟨hcc, hss⟩ (fun H locs hPn hkk hS => ?_)
  have hL : LI (dC, dI) (dC, dI, ad1, ca1, tS) (dC, dI, ad2, ca2, t2) qo cJ (fun q : Nat => s.heap.size ≤ q) s (cPageBoard_store st (xs (4 * k + 1)) (xs (4 * k + 2)) (xs (4 * k + 3))).1 (m_store mt (xs (4 * k + 1)) (xs (4 * k + 2)) (xs (4 * k + 3))).1 ov H locs := hL.mdl hPn hkk hS
  refine lv_icmp_eq (tgt := 860) hx hb dL_law_284 (by decide) (fun _ => ?_) (fun c9 => absurd hE c9)
  obtain ⟨x5, ex5⟩ : ∃ y : Int32, y = x4 + 4 := ⟨_, rfl⟩
  refine lv_iinc (v := x5) (lv' := [(4, .int x5), (0, .ref b), (1, .ref (ad1 0)), (2, .ref (ad2 0)), (3, .ref qo)]) hx hb dL_law_860 hl (k := 4) rfl (by rw [ex5]; rfl) (by decide) rfl (fun ls hl => ?_)
  refine lv_goto (tgt := 23) hx hb dL_law_863 (by decide) ?_
  refine W.widen (k := 42 + (k + 1)) (n := S0n + 6 * (k + 1)) (by omega) (by omega) ?_
  exact ih (k + 1) x5 (cPageBoard_store st (xs (4 * k + 1)) (xs (4 * k + 2)) (xs (4 * k + 3))).1 (m_store mt (xs (4 * k + 1)) (xs (4 * k + 2)) (xs (4 * k + 3))).1 ov H locs ls (by omega) (by omega) (by rw [ex5, ex4]; exact nI_4 k) hR2 hL (lv_sub hl [1, 2, 3, 4, 0] rfl)
set_option maxHeartbeats 4000000 in
set_option maxRecDepth 100000 in
theorem law_case_stored (Rel : Nat → CS → CS → Prop) (HS : SimAll Rel) {p : Program} {l : Launch} {e : Env} {s : State} {m : MethodId} {below : List Frame} {meth : Method} {c : Code} {dC : Nat → ClassId} {dI : Nat → Nat → Nat} {ad1 ad2 : Nat → Nat} {ca1 ca2 : Nat → ClassId} {tS t2 qo : Nat} {cJ : ClassId} {b L : Nat} {xs : Nat → Int32} (hLn : L ≤ 256) (hl0 : l.stackTraces = false) (C0 : lw_At p s m meth c b L xs) (hK1 : va_K (dC, dI) vwCl (cty (dC, dI, ad1, ca1, tS)) s) (hK2 : va_K (dC, dI) vwCl (mty (dC, dI, ad2, ca2, t2)) s) (hK3 : va_K (dC, dI) vwCl [(cJ, .long)] s) (hZ : cz (dC, dI, ad1, ca1, tS) (fun q : Nat => s.heap.size ≤ q) s s.heap) (hT_peek : tP "java/lang/IndexOutOfBoundsException" 95 "no such word of MEMORY" (fun q : Nat => s.heap.size ≤ q) s s.heap) (hT_stored : tP "java/lang/IndexOutOfBoundsException" 108 "no such word of a SECTOR" (fun q : Nat => s.heap.size ≤ q) s s.heap) (hT_step : tP "java/lang/IllegalArgumentException" 120 "not 1 .. 5000 STEPS" (fun q : Nat => s.heap.size ≤ q) s s.heap) (hT_run : tP "java/lang/IllegalArgumentException" 131 "not 1 .. 20000 TICKS" (fun q : Nat => s.heap.size ≤ q) s s.heap) (hT_register : tP "java/lang/IndexOutOfBoundsException" 138 "no such register" (fun q : Nat => s.heap.size ≤ q) s s.heap) (k : Nat) (x4 : Int32) (st mt : CS) (ov : Nat → Int64) (H : Heap) (locs : List Loc) (ls : Array Slot) (h4 : 4 * k + 4 ≤ L) (ex4 : x4 = nI (4 * k)) (hR : Rel k st mt) (hL : LI (dC, dI) (dC, dI, ad1, ca1, tS) (dC, dI, ad2, ca2, t2) qo cJ (fun q : Nat => s.heap.size ≤ q) s st mt ov H locs) (hl : lv_has ls 7 [(0, .ref b), (1, .ref (ad1 0)), (2, .ref (ad2 0)), (3, .ref qo), (4, .int x4)])
    (ih : ∀ (k2 : Nat) (x4 : Int32) (st mt : CS) (ov : Nat → Int64) (H : Heap) (locs : List Loc) (ls : Array Slot), k2 = k + 1 → 4 * k2 ≤ L → x4 = nI (4 * k2) → Rel k2 st mt → LI (dC, dI) (dC, dI, ad1, ca1, tS) (dC, dI, ad2, ca2, t2) qo cJ (fun q : Nat => s.heap.size ≤ q) s st mt ov H locs → lv_has ls 7 [(0, .ref b), (1, .ref (ad1 0)), (2, .ref (ad2 0)), (3, .ref qo), (4, .int x4)] → W p l e room_1 s m #[Value.ref b] below meth c H locs (42 + k2) (S0n + 6 * k2) (lw_Z below #[Value.ref b] s) (F0 m 23 ls [])) : W p l e room_1 s m #[Value.ref b] below meth c H locs (42 + k) (S0n + 6 * k) (lw_Z below #[Value.ref b] s) (F0 m 289 ls []) := by
  obtain ⟨hx, hb, hr, hml, hown, hts, hX, hbl, hlocks, hgv⟩ := C0
  have hA : ∀ q : Nat, s.heap.size ≤ q → (fun q : Nat => s.heap.size ≤ q) q := fun _ h => h
  have hbA : ¬ (fun q : Nat => s.heap.size ≤ q) b := Nat.not_le.mpr hbl
  have hk64 : k < 64 := by omega
  have rc0 : room_1.cells = 175 := rfl
  have rs0 : room_1.slots = 79122 := rfl
  have s00 : S0n = 78068 := rfl
  have hcc : 42 + k ≤ room_1.cells := by omega
  have hss : S0n + 6 * k ≤ room_1.slots := by omega
  have hix1 : vp_in (x4 + (1 : Int32)) L := by rw [ex4]; exact ixL k 1 (by omega) (by omega) (by omega)
  have hcl1 : xs (x4 + (1 : Int32)).toNatClampNeg = xs (4 * k + 1) := by rw [ex4]; exact congrArg xs (clL k 1 (by omega) (by omega))
  have hix2 : vp_in (x4 + (2 : Int32)) L := by rw [ex4]; exact ixL k 2 (by omega) (by omega) (by omega)
  have hcl2 : xs (x4 + (2 : Int32)).toNatClampNeg = xs (4 * k + 2) := by rw [ex4]; exact congrArg xs (clL k 2 (by omega) (by omega))
  have hix3 : vp_in (x4 + (3 : Int32)) L := by rw [ex4]; exact ixL k 3 (by omega) (by omega) (by omega)
  have hcl3 : xs (x4 + (3 : Int32)).toNatClampNeg = xs (4 * k + 3) := by rw [ex4]; exact congrArg xs (clL k 3 (by omega) (by omega))
  obtain ⟨hO, hTh⟩ := HS.2.2.2.2.1 k st mt (xs (4 * k + 1)) (xs (4 * k + 2)) hk64 hR
  refine lv_aload_n hx hb dL_law_289 rfl (lv_at hl 1 rfl) ?_
  refine lv_aload_n hx hb dL_law_290 rfl (lv_at hl 0 rfl) ?_
  refine lv_iload hx hb dL_law_291 (lv_at hl 4 rfl) ?_
  refine lv_iconst (v := (1 : Int32)) hx hb dL_law_293 (by decide) ?_
  refine lv_iadd hx hb dL_law_294 ?_
  refine va_sld hx hb hX hbl hbA hL.2.2.2.2.2.2 hix1 dL_law_295 ?_
  rw [hcl1]
  refine lv_aload_n hx hb dL_law_296 rfl (lv_at hl 0 rfl) ?_
  refine lv_iload hx hb dL_law_297 (lv_at hl 4 rfl) ?_
  refine lv_iconst (v := (2 : Int32)) hx hb dL_law_299 (by decide) ?_
  refine lv_iadd hx hb dL_law_300 ?_
  refine va_sld hx hb hX hbl hbA hL.2.2.2.2.2.2 hix2 dL_law_301 ?_
  rw [hcl2]
  refine lv_aload_n hx hb dL_law_302 rfl (lv_at hl 3 rfl) ?_
  obtain ⟨hFh, hpre⟩ := hPre hL.1 hL.2.2.1 hK1 hK3 (dleft (hL.d3 (b := mt))) hA hZ hT_stored hL.2.2.2.2.2.2
  refine va_calli (vx_runSW (As := [.ref (ad1 0), .int (xs (4 * k + 1)), .int (xs (4 * k + 2)), .ref qo]) (rest := []) ⟨hx, hb, hml, hown, hts⟩ (c_L_stored l hl0 (dC, dI, ad1, ca1, tS) qo cJ st ov (xs (4 * k + 1)) (xs (4 * k + 2)) H.size) (vx_cwSW 4 hts (gT_S (fun w h => h) (wLw_in (List.mem_of_getElem? (i := 18) rfl)) (wLw_in (List.mem_of_getElem? (i := 19) rfl)) (wLw_in (List.mem_of_getElem? (i := 10) rfl)) (wLw_in (List.mem_of_getElem? (i := 20) rfl))) rfl rfl rfl ydL_stored ⟨Nat.le_of_ble_eq_true rfl, Nat.le_of_ble_eq_true rfl⟩) ⟨hBlind _ _, fun U hU hW => ⟨rfl, hpre U hU hW⟩⟩ rfl rfl hl.1 rfl (lv_room (Nat.le_of_ble_eq_true rfl)) dL_law_303 ⟨by omega, by omega⟩) hL.2.2.2.2.2.2 (fun q _ h => hFh q h) hFh (fun r_ u t H1 locs ht hvm hw hB hz1 hk1 hS => ?_)
  obtain ⟨hB1, hB2⟩ := hB
  rw [ht] at hB1 hB2
  have hBm := keepO hL.d3 hL.2.1 hk1
  have hL : LI (dC, dI) (dC, dI, ad1, ca1, tS) (dC, dI, ad2, ca2, t2) qo cJ (fun q : Nat => s.heap.size ≤ q) s u.1 mt u.2 H1 locs := ⟨hB1, hBm, hB2, hL.2.2.2.1, hL.2.2.2.2.1, hL.2.2.2.2.2.1, hS⟩
  generalize H1 = H at hL ⊢
  have hcc : 42 + k + 1 ≤ room_1.cells := by omega
  have hss : S0n + 6 * k + 6 ≤ room_1.slots := by omega
  rcases hw with ⟨hx1, rfl, rfl⟩ | ⟨Z, hx1, rfl, rfl⟩
  · obtain ⟨-, hth, hR2⟩ := hTh.resolve_right (fun ⟨Z, q, _⟩ => by rw [hx1] at q; cases q)
    have hL : LI (dC, dI) (dC, dI, ad1, ca1, tS) (dC, dI, ad2, ca2, t2) qo cJ (fun q : Nat => s.heap.size ≤ q) s st mt ov H locs := hL
    refine lv_istore (lv' := [(5, .int (1 : Int32)), (0, .ref b), (1, .ref (ad1 0)), (2, .ref (ad2 0)), (3, .ref qo), (4, .int x4)]) hx hb dL_law_306 hl (by decide) rfl (fun ls hl => ?_)
    refine lv_aload_n hx hb dL_law_308 rfl (lv_at hl 3 rfl) ?_
    refine lv_aload_n hx hb dL_law_309 rfl (lv_at hl 1 rfl) ?_
    refine lv_iload hx hb dL_law_310 (lv_at hl 5 rfl) ?_
    refine lv_iconst (v := (1 : Int32)) hx hb dL_law_312 (by decide) ?_
    refine lv_iadd hx hb dL_law_313 ?_
    refine va_sld hx hb hX hbl hbA hL.2.2.2.2.2.2 hix1 dL_law_314 ?_
    rw [hcl1]
    refine lv_aload_n hx hb dL_law_315 rfl (lv_at hl 1 rfl) ?_
    refine lv_iload hx hb dL_law_316 (lv_at hl 5 rfl) ?_
    refine lv_iconst (v := (2 : Int32)) hx hb dL_law_318 (by decide) ?_
    refine lv_iadd hx hb dL_law_319 ?_
    refine va_sld hx hb hX hbl hbA hL.2.2.2.2.2.2 hix2 dL_law_320 ?_
    rw [hcl2]
    refine cy_Vi (As := [.int (xs (4 * k + 1)), .int (xs (4 * k + 2))]) (rest := []) ⟨hx, hb, hml, hown, hts⟩ (c_m_stored l (dC, dI, ad2, ca2, t2) mt (xs (4 * k + 1)) (xs (4 * k + 2)) hO) (cwV 2 hts (gT_V (fun w h => wAX_in (wAll_in h)) (wLw_in (List.mem_of_getElem? (i := 22) rfl)) (wAX_in (wAll_in mw279)) (wAX_in (wAll_in mw280)) (wAX_in (wAll_in mw3)) (wAX_in (wAll_in mw281))) rfl rfl rfl yd_yX11_stored ⟨Nat.le_of_ble_eq_true rfl, Nat.le_of_ble_eq_true rfl⟩) (va_recv hK2 hL.2.1 (ci := 11) (q0 := 0) rfl rfl) hK2 hA trivial (mz_ok _) hL.2.1 hL.dm hL.2.2.2.2.2.2 rfl hl.1 rfl (Nat.le_of_ble_eq_true rfl) dL_law_321 ⟨hcc, hss⟩ (fun H locs hPn hkk hS => ?_)
    have hL : LI (dC, dI) (dC, dI, ad1, ca1, tS) (dC, dI, ad2, ca2, t2) qo cJ (fun q : Nat => s.heap.size ≤ q) s st (m_stored mt (xs (4 * k + 1)) (xs (4 * k + 2))).1 ov H locs := hL.mdl hPn hkk hS
    refine lv_istore (lv' := [(6, .int (m_stored mt (xs (4 * k + 1)) (xs (4 * k + 2))).2), (5, .int (1 : Int32)), (0, .ref b), (1, .ref (ad1 0)), (2, .ref (ad2 0)), (3, .ref qo), (4, .int x4)]) hx hb dL_law_324 hl (by decide) rfl (fun ls hl => ?_)
    refine lv_aload_n hx hb dL_law_326 rfl (lv_at hl 4 rfl) ?_
    refine cy_Vi (As := []) (rest := []) ⟨hx, hb, hml, hown, hts⟩ (c_m_thrown l (dC, dI, ad2, ca2, t2) (m_stored mt (xs (4 * k + 1)) (xs (4 * k + 2))).1 ) (cwV 0 hts (gT_V (fun w h => wAX_in (wAll_in h)) (wLw_in (List.mem_of_getElem? (i := 15) rfl)) (wAX_in (wAll_in mw253)) (wAX_in (wAll_in mw254)) (wAX_in (wAll_in mw3)) (wAX_in (wAll_in mw255))) rfl rfl rfl yd_yX11_thrown ⟨Nat.le_of_ble_eq_true rfl, Nat.le_of_ble_eq_true rfl⟩) (va_recv hK2 hL.2.1 (ci := 11) (q0 := 0) rfl rfl) hK2 hA trivial (mz_ok _) hL.2.1 hL.dm hL.2.2.2.2.2.2 rfl hl.1 rfl (Nat.le_of_ble_eq_true rfl) dL_law_327 ⟨hcc, hss⟩ (fun H locs hPn hkk hS => ?_)
    have hL : LI (dC, dI) (dC, dI, ad1, ca1, tS) (dC, dI, ad2, ca2, t2) qo cJ (fun q : Nat => s.heap.size ≤ q) s st (m_stored mt (xs (4 * k + 1)) (xs (4 * k + 2))).1 ov H locs := hL.mdl hPn hkk hS
    refine lv_iload hx hb dL_law_330 (lv_at hl 1 rfl) ?_
    refine lv_icmp_eq (tgt := 337) hx hb dL_law_332 (by decide) (fun _ => ?_) (fun c9 => absurd hth c9)
    refine lv_iload hx hb dL_law_337 (lv_at hl 1 rfl) ?_
    refine lv_if_ne (tgt := 354) hx hb dL_law_339 (by decide) (fun _ => ?_) (fun c9 => absurd c9 (by decide))
    refine lv_goto (tgt := 860) hx hb dL_law_354 (by decide) ?_
    obtain ⟨x5, ex5⟩ : ∃ y : Int32, y = x4 + 4 := ⟨_, rfl⟩
    refine lv_iinc (v := x5) (lv' := [(4, .int x5), (6, .int (m_stored mt (xs (4 * k + 1)) (xs (4 * k + 2))).2), (5, .int (1 : Int32)), (0, .ref b), (1, .ref (ad1 0)), (2, .ref (ad2 0)), (3, .ref qo)]) hx hb dL_law_860 hl (k := 6) rfl (by rw [ex5]; rfl) (by decide) rfl (fun ls hl => ?_)
    refine lv_goto (tgt := 23) hx hb dL_law_863 (by decide) ?_
    refine W.widen (k := 42 + (k + 1)) (n := S0n + 6 * (k + 1)) (by omega) (by omega) ?_
    exact ih (k + 1) x5 st (m_stored mt (xs (4 * k + 1)) (xs (4 * k + 2))).1 ov H locs ls (by omega) (by omega) (by rw [ex5, ex4]; exact nI_4 k) hR2 hL (lv_sub hl [3, 4, 5, 6, 0] rfl)
  · obtain ⟨Z2, q1, hth, hE, hR2⟩ := hTh.resolve_left (fun q => by rw [q.1] at hx1; cases hx1)
    obtain rfl : Z = Z2 := Option.some.inj (hx1.symm.trans q1)
    have hL : LI (dC, dI) (dC, dI, ad1, ca1, tS) (dC, dI, ad2, ca2, t2) qo cJ (fun q : Nat => s.heap.size ≤ q) s Z.1 mt (vp_updL ov (0 : Int32).toNatClampNeg Z.2.toInt64) H locs := hL
    refine lv_istore (lv' := [(5, .int (0 : Int32)), (0, .ref b), (1, .ref (ad1 0)), (2, .ref (ad2 0)), (3, .ref qo), (4, .int x4)]) hx hb dL_law_306 hl (by decide) rfl (fun ls hl => ?_)
    refine lv_aload_n hx hb dL_law_308 rfl (lv_at hl 3 rfl) ?_
    refine lv_aload_n hx hb dL_law_309 rfl (lv_at hl 1 rfl) ?_
    refine lv_iload hx hb dL_law_310 (lv_at hl 5 rfl) ?_
    refine lv_iconst (v := (1 : Int32)) hx hb dL_law_312 (by decide) ?_
    refine lv_iadd hx hb dL_law_313 ?_
    refine va_sld hx hb hX hbl hbA hL.2.2.2.2.2.2 hix1 dL_law_314 ?_
    rw [hcl1]
    refine lv_aload_n hx hb dL_law_315 rfl (lv_at hl 1 rfl) ?_
    refine lv_iload hx hb dL_law_316 (lv_at hl 5 rfl) ?_
    refine lv_iconst (v := (2 : Int32)) hx hb dL_law_318 (by decide) ?_
    refine lv_iadd hx hb dL_law_319 ?_
    refine va_sld hx hb hX hbl hbA hL.2.2.2.2.2.2 hix2 dL_law_320 ?_
    rw [hcl2]
    refine cy_Vi (As := [.int (xs (4 * k + 1)), .int (xs (4 * k + 2))]) (rest := []) ⟨hx, hb, hml, hown, hts⟩ (c_m_stored l (dC, dI, ad2, ca2, t2) mt (xs (4 * k + 1)) (xs (4 * k + 2)) hO) (cwV 2 hts (gT_V (fun w h => wAX_in (wAll_in h)) (wLw_in (List.mem_of_getElem? (i := 22) rfl)) (wAX_in (wAll_in mw279)) (wAX_in (wAll_in mw280)) (wAX_in (wAll_in mw3)) (wAX_in (wAll_in mw281))) rfl rfl rfl yd_yX11_stored ⟨Nat.le_of_ble_eq_true rfl, Nat.le_of_ble_eq_true rfl⟩) (va_recv hK2 hL.2.1 (ci := 11) (q0 := 0) rfl rfl) hK2 hA trivial (mz_ok _) hL.2.1 hL.dm hL.2.2.2.2.2.2 rfl hl.1 rfl (Nat.le_of_ble_eq_true rfl) dL_law_321 ⟨hcc, hss⟩ (fun H locs hPn hkk hS => ?_)
    have hL : LI (dC, dI) (dC, dI, ad1, ca1, tS) (dC, dI, ad2, ca2, t2) qo cJ (fun q : Nat => s.heap.size ≤ q) s Z.1 (m_stored mt (xs (4 * k + 1)) (xs (4 * k + 2))).1 (vp_updL ov (0 : Int32).toNatClampNeg Z.2.toInt64) H locs := hL.mdl hPn hkk hS
    refine lv_istore (lv' := [(6, .int (m_stored mt (xs (4 * k + 1)) (xs (4 * k + 2))).2), (5, .int (0 : Int32)), (0, .ref b), (1, .ref (ad1 0)), (2, .ref (ad2 0)), (3, .ref qo), (4, .int x4)]) hx hb dL_law_324 hl (by decide) rfl (fun ls hl => ?_)
    refine lv_aload_n hx hb dL_law_326 rfl (lv_at hl 4 rfl) ?_
    refine cy_Vi (As := []) (rest := []) ⟨hx, hb, hml, hown, hts⟩ (c_m_thrown l (dC, dI, ad2, ca2, t2) (m_stored mt (xs (4 * k + 1)) (xs (4 * k + 2))).1 ) (cwV 0 hts (gT_V (fun w h => wAX_in (wAll_in h)) (wLw_in (List.mem_of_getElem? (i := 15) rfl)) (wAX_in (wAll_in mw253)) (wAX_in (wAll_in mw254)) (wAX_in (wAll_in mw3)) (wAX_in (wAll_in mw255))) rfl rfl rfl yd_yX11_thrown ⟨Nat.le_of_ble_eq_true rfl, Nat.le_of_ble_eq_true rfl⟩) (va_recv hK2 hL.2.1 (ci := 11) (q0 := 0) rfl rfl) hK2 hA trivial (mz_ok _) hL.2.1 hL.dm hL.2.2.2.2.2.2 rfl hl.1 rfl (Nat.le_of_ble_eq_true rfl) dL_law_327 ⟨hcc, hss⟩ (fun H locs hPn hkk hS => ?_)
    have hL : LI (dC, dI) (dC, dI, ad1, ca1, tS) (dC, dI, ad2, ca2, t2) qo cJ (fun q : Nat => s.heap.size ≤ q) s Z.1 (m_stored mt (xs (4 * k + 1)) (xs (4 * k + 2))).1 (vp_updL ov (0 : Int32).toNatClampNeg Z.2.toInt64) H locs := hL.mdl hPn hkk hS
    refine lv_iload hx hb dL_law_330 (lv_at hl 1 rfl) ?_
    refine lv_icmp_eq (tgt := 337) hx hb dL_law_332 (by decide) (fun _ => ?_) (fun c9 => absurd hth c9)
    refine lv_iload hx hb dL_law_337 (lv_at hl 1 rfl) ?_
    refine lv_if_ne (tgt := 354) hx hb dL_law_339 (by decide) (fun c9 => absurd rfl c9) (fun _ => ?_)
    refine lv_aload_n hx hb dL_law_342 rfl (lv_at hl 5 rfl) ?_
    refine lv_iconst (v := (0 : Int32)) hx hb dL_law_343 (by decide) ?_
    refine va_lald (f := (vp_updL ov (0 : Int32).toNatClampNeg Z.2.toInt64)) hx hb hK3 hL.2.2.1 0 0 rfl rfl (by unfold vp_in; decide) dL_law_344 ?_
    refine lv_iload hx hb dL_law_345 (lv_at hl 0 rfl) ?_
    refine lv_i2l (v := (m_stored mt (xs (4 * k + 1)) (xs (4 * k + 2))).2.toInt64) hx hb dL_law_347 rfl ?_
    refine W.lcmp hx hb dL_law_348 ?_
    refine lv_if_eq (tgt := 354) hx hb dL_law_349 (by decide) (fun _ => ?_) (fun c9 => absurd (show lg_cmp (vp_updL ov (0 : Int32).toNatClampNeg Z.2.toInt64 (0 : Int32).toNatClampNeg) (m_stored mt (xs (4 * k + 1)) (xs (4 * k + 2))).2.toInt64 = 0 by rw [pk_uLs, hE]; exact lgc _) c9)
    refine lv_goto (tgt := 860) hx hb dL_law_354 (by decide) ?_
    obtain ⟨x5, ex5⟩ : ∃ y : Int32, y = x4 + 4 := ⟨_, rfl⟩
    refine lv_iinc (v := x5) (lv' := [(4, .int x5), (6, .int (m_stored mt (xs (4 * k + 1)) (xs (4 * k + 2))).2), (5, .int (0 : Int32)), (0, .ref b), (1, .ref (ad1 0)), (2, .ref (ad2 0)), (3, .ref qo)]) hx hb dL_law_860 hl (k := 6) rfl (by rw [ex5]; rfl) (by decide) rfl (fun ls hl => ?_)
    refine lv_goto (tgt := 23) hx hb dL_law_863 (by decide) ?_
    refine W.widen (k := 42 + (k + 1)) (n := S0n + 6 * (k + 1)) (by omega) (by omega) ?_
    exact ih (k + 1) x5 Z.1 (m_stored mt (xs (4 * k + 1)) (xs (4 * k + 2))).1 (vp_updL ov (0 : Int32).toNatClampNeg Z.2.toInt64) H locs ls (by omega) (by omega) (by rw [ex5, ex4]; exact nI_4 k) hR2 hL (lv_sub hl [3, 4, 5, 6, 0] rfl)
set_option maxHeartbeats 4000000 in
set_option maxRecDepth 100000 in
theorem law_case_key (Rel : Nat → CS → CS → Prop) (HS : SimAll Rel) {p : Program} {l : Launch} {e : Env} {s : State} {m : MethodId} {below : List Frame} {meth : Method} {c : Code} {dC : Nat → ClassId} {dI : Nat → Nat → Nat} {ad1 ad2 : Nat → Nat} {ca1 ca2 : Nat → ClassId} {tS t2 qo : Nat} {cJ : ClassId} {b L : Nat} {xs : Nat → Int32} (hLn : L ≤ 256) (hl0 : l.stackTraces = false) (C0 : lw_At p s m meth c b L xs) (hK1 : va_K (dC, dI) vwCl (cty (dC, dI, ad1, ca1, tS)) s) (hK2 : va_K (dC, dI) vwCl (mty (dC, dI, ad2, ca2, t2)) s) (hK3 : va_K (dC, dI) vwCl [(cJ, .long)] s) (hZ : cz (dC, dI, ad1, ca1, tS) (fun q : Nat => s.heap.size ≤ q) s s.heap) (hT_peek : tP "java/lang/IndexOutOfBoundsException" 95 "no such word of MEMORY" (fun q : Nat => s.heap.size ≤ q) s s.heap) (hT_stored : tP "java/lang/IndexOutOfBoundsException" 108 "no such word of a SECTOR" (fun q : Nat => s.heap.size ≤ q) s s.heap) (hT_step : tP "java/lang/IllegalArgumentException" 120 "not 1 .. 5000 STEPS" (fun q : Nat => s.heap.size ≤ q) s s.heap) (hT_run : tP "java/lang/IllegalArgumentException" 131 "not 1 .. 20000 TICKS" (fun q : Nat => s.heap.size ≤ q) s s.heap) (hT_register : tP "java/lang/IndexOutOfBoundsException" 138 "no such register" (fun q : Nat => s.heap.size ≤ q) s s.heap) (k : Nat) (x4 : Int32) (st mt : CS) (ov : Nat → Int64) (H : Heap) (locs : List Loc) (ls : Array Slot) (h4 : 4 * k + 4 ≤ L) (ex4 : x4 = nI (4 * k)) (hR : Rel k st mt) (hL : LI (dC, dI) (dC, dI, ad1, ca1, tS) (dC, dI, ad2, ca2, t2) qo cJ (fun q : Nat => s.heap.size ≤ q) s st mt ov H locs) (hl : lv_has ls 7 [(0, .ref b), (1, .ref (ad1 0)), (2, .ref (ad2 0)), (3, .ref qo), (4, .int x4)])
    (ih : ∀ (k2 : Nat) (x4 : Int32) (st mt : CS) (ov : Nat → Int64) (H : Heap) (locs : List Loc) (ls : Array Slot), k2 = k + 1 → 4 * k2 ≤ L → x4 = nI (4 * k2) → Rel k2 st mt → LI (dC, dI) (dC, dI, ad1, ca1, tS) (dC, dI, ad2, ca2, t2) qo cJ (fun q : Nat => s.heap.size ≤ q) s st mt ov H locs → lv_has ls 7 [(0, .ref b), (1, .ref (ad1 0)), (2, .ref (ad2 0)), (3, .ref qo), (4, .int x4)] → W p l e room_1 s m #[Value.ref b] below meth c H locs (42 + k2) (S0n + 6 * k2) (lw_Z below #[Value.ref b] s) (F0 m 23 ls [])) : W p l e room_1 s m #[Value.ref b] below meth c H locs (42 + k) (S0n + 6 * k) (lw_Z below #[Value.ref b] s) (F0 m 357 ls []) := by
  obtain ⟨hx, hb, hr, hml, hown, hts, hX, hbl, hlocks, hgv⟩ := C0
  have hA : ∀ q : Nat, s.heap.size ≤ q → (fun q : Nat => s.heap.size ≤ q) q := fun _ h => h
  have hbA : ¬ (fun q : Nat => s.heap.size ≤ q) b := Nat.not_le.mpr hbl
  have hk64 : k < 64 := by omega
  have rc0 : room_1.cells = 175 := rfl
  have rs0 : room_1.slots = 79122 := rfl
  have s00 : S0n = 78068 := rfl
  have hcc : 42 + k ≤ room_1.cells := by omega
  have hss : S0n + 6 * k ≤ room_1.slots := by omega
  have hix1 : vp_in (x4 + (1 : Int32)) L := by rw [ex4]; exact ixL k 1 (by omega) (by omega) (by omega)
  have hcl1 : xs (x4 + (1 : Int32)).toNatClampNeg = xs (4 * k + 1) := by rw [ex4]; exact congrArg xs (clL k 1 (by omega) (by omega))
  have hix2 : vp_in (x4 + (2 : Int32)) L := by rw [ex4]; exact ixL k 2 (by omega) (by omega) (by omega)
  have hcl2 : xs (x4 + (2 : Int32)).toNatClampNeg = xs (4 * k + 2) := by rw [ex4]; exact congrArg xs (clL k 2 (by omega) (by omega))
  have hix3 : vp_in (x4 + (3 : Int32)) L := by rw [ex4]; exact ixL k 3 (by omega) (by omega) (by omega)
  have hcl3 : xs (x4 + (3 : Int32)).toNatClampNeg = xs (4 * k + 3) := by rw [ex4]; exact congrArg xs (clL k 3 (by omega) (by omega))
  obtain ⟨hE, hR2⟩ := HS.2.2.2.2.2.1 k st mt (xs (4 * k + 1)) hk64 hR
  refine lv_aload_n hx hb dL_law_357 rfl (lv_at hl 1 rfl) ?_
  refine lv_aload_n hx hb dL_law_358 rfl (lv_at hl 0 rfl) ?_
  refine lv_iload hx hb dL_law_359 (lv_at hl 4 rfl) ?_
  refine lv_iconst (v := (1 : Int32)) hx hb dL_law_361 (by decide) ?_
  refine lv_iadd hx hb dL_law_362 ?_
  refine va_sld hx hb hX hbl hbA hL.2.2.2.2.2.2 hix1 dL_law_363 ?_
  rw [hcl1]
  refine cy_Vi (As := [.int (xs (4 * k + 1))]) (rest := []) ⟨hx, hb, hml, hown, hts⟩ (c_cPageBoard_key l (dC, dI, ad1, ca1, tS) st (xs (4 * k + 1))) (cwV 1 hts (gT_V (fun w h => wAX_in (wAll_in h)) (wLw_in (List.mem_of_getElem? (i := 23) rfl)) (wAX_in (wAll_in mw282)) (wAX_in (wAll_in mw283)) (wAX_in (wAll_in mw1)) (wAX_in (wAll_in mw284))) rfl rfl rfl yd_yX10_key ⟨Nat.le_of_ble_eq_true rfl, Nat.le_of_ble_eq_true rfl⟩) (va_recv hK1 hL.1 (ci := 10) (q0 := 0) rfl rfl) hK1 hA hZ (cz_ok _) hL.1 hL.dc hL.2.2.2.2.2.2 rfl hl.1 rfl (Nat.le_of_ble_eq_true rfl) dL_law_364 ⟨hcc, hss⟩ (fun H locs hPn hkk hS => ?_)
  have hL : LI (dC, dI) (dC, dI, ad1, ca1, tS) (dC, dI, ad2, ca2, t2) qo cJ (fun q : Nat => s.heap.size ≤ q) s (cPageBoard_key st (xs (4 * k + 1))).1 mt ov H locs := hL.cls hPn hkk hS
  refine lv_aload_n hx hb dL_law_367 rfl (lv_at hl 2 rfl) ?_
  refine lv_aload_n hx hb dL_law_368 rfl (lv_at hl 0 rfl) ?_
  refine lv_iload hx hb dL_law_369 (lv_at hl 4 rfl) ?_
  refine lv_iconst (v := (1 : Int32)) hx hb dL_law_371 (by decide) ?_
  refine lv_iadd hx hb dL_law_372 ?_
  refine va_sld hx hb hX hbl hbA hL.2.2.2.2.2.2 hix1 dL_law_373 ?_
  rw [hcl1]
  refine cy_Vi (As := [.int (xs (4 * k + 1))]) (rest := [.int (cPageBoard_key st (xs (4 * k + 1))).2]) ⟨hx, hb, hml, hown, hts⟩ (c_m_key l (dC, dI, ad2, ca2, t2) mt (xs (4 * k + 1))) (cwV 1 hts (gT_V (fun w h => wAX_in (wAll_in h)) (wLw_in (List.mem_of_getElem? (i := 24) rfl)) (wAX_in (wAll_in mw290)) (wAX_in (wAll_in mw291)) (wAX_in (wAll_in mw3)) (wAX_in (wAll_in mw292))) rfl rfl rfl yd_yX11_key ⟨Nat.le_of_ble_eq_true rfl, Nat.le_of_ble_eq_true rfl⟩) (va_recv hK2 hL.2.1 (ci := 11) (q0 := 0) rfl rfl) hK2 hA trivial (mz_ok _) hL.2.1 hL.dm hL.2.2.2.2.2.2 rfl hl.1 rfl (Nat.le_of_ble_eq_true rfl) dL_law_374 ⟨hcc, hss⟩ (fun H locs hPn hkk hS => ?_)
  have hL : LI (dC, dI) (dC, dI, ad1, ca1, tS) (dC, dI, ad2, ca2, t2) qo cJ (fun q : Nat => s.heap.size ≤ q) s (cPageBoard_key st (xs (4 * k + 1))).1 (m_key mt (xs (4 * k + 1))).1 ov H locs := hL.mdl hPn hkk hS
  refine lv_icmp_eq (tgt := 860) hx hb dL_law_377 (by decide) (fun _ => ?_) (fun c9 => absurd hE c9)
  obtain ⟨x5, ex5⟩ : ∃ y : Int32, y = x4 + 4 := ⟨_, rfl⟩
  refine lv_iinc (v := x5) (lv' := [(4, .int x5), (0, .ref b), (1, .ref (ad1 0)), (2, .ref (ad2 0)), (3, .ref qo)]) hx hb dL_law_860 hl (k := 4) rfl (by rw [ex5]; rfl) (by decide) rfl (fun ls hl => ?_)
  refine lv_goto (tgt := 23) hx hb dL_law_863 (by decide) ?_
  refine W.widen (k := 42 + (k + 1)) (n := S0n + 6 * (k + 1)) (by omega) (by omega) ?_
  exact ih (k + 1) x5 (cPageBoard_key st (xs (4 * k + 1))).1 (m_key mt (xs (4 * k + 1))).1 ov H locs ls (by omega) (by omega) (by rw [ex5, ex4]; exact nI_4 k) hR2 hL (lv_sub hl [1, 2, 3, 4, 0] rfl)
set_option maxHeartbeats 4000000 in
set_option maxRecDepth 100000 in
theorem law_case_step (Rel : Nat → CS → CS → Prop) (HS : SimAll Rel) {p : Program} {l : Launch} {e : Env} {s : State} {m : MethodId} {below : List Frame} {meth : Method} {c : Code} {dC : Nat → ClassId} {dI : Nat → Nat → Nat} {ad1 ad2 : Nat → Nat} {ca1 ca2 : Nat → ClassId} {tS t2 qo : Nat} {cJ : ClassId} {b L : Nat} {xs : Nat → Int32} (hLn : L ≤ 256) (hl0 : l.stackTraces = false) (C0 : lw_At p s m meth c b L xs) (hK1 : va_K (dC, dI) vwCl (cty (dC, dI, ad1, ca1, tS)) s) (hK2 : va_K (dC, dI) vwCl (mty (dC, dI, ad2, ca2, t2)) s) (hK3 : va_K (dC, dI) vwCl [(cJ, .long)] s) (hZ : cz (dC, dI, ad1, ca1, tS) (fun q : Nat => s.heap.size ≤ q) s s.heap) (hT_peek : tP "java/lang/IndexOutOfBoundsException" 95 "no such word of MEMORY" (fun q : Nat => s.heap.size ≤ q) s s.heap) (hT_stored : tP "java/lang/IndexOutOfBoundsException" 108 "no such word of a SECTOR" (fun q : Nat => s.heap.size ≤ q) s s.heap) (hT_step : tP "java/lang/IllegalArgumentException" 120 "not 1 .. 5000 STEPS" (fun q : Nat => s.heap.size ≤ q) s s.heap) (hT_run : tP "java/lang/IllegalArgumentException" 131 "not 1 .. 20000 TICKS" (fun q : Nat => s.heap.size ≤ q) s s.heap) (hT_register : tP "java/lang/IndexOutOfBoundsException" 138 "no such register" (fun q : Nat => s.heap.size ≤ q) s s.heap) (k : Nat) (x4 : Int32) (st mt : CS) (ov : Nat → Int64) (H : Heap) (locs : List Loc) (ls : Array Slot) (h4 : 4 * k + 4 ≤ L) (ex4 : x4 = nI (4 * k)) (hR : Rel k st mt) (hL : LI (dC, dI) (dC, dI, ad1, ca1, tS) (dC, dI, ad2, ca2, t2) qo cJ (fun q : Nat => s.heap.size ≤ q) s st mt ov H locs) (hl : lv_has ls 7 [(0, .ref b), (1, .ref (ad1 0)), (2, .ref (ad2 0)), (3, .ref qo), (4, .int x4)])
    (ih : ∀ (k2 : Nat) (x4 : Int32) (st mt : CS) (ov : Nat → Int64) (H : Heap) (locs : List Loc) (ls : Array Slot), k2 = k + 1 → 4 * k2 ≤ L → x4 = nI (4 * k2) → Rel k2 st mt → LI (dC, dI) (dC, dI, ad1, ca1, tS) (dC, dI, ad2, ca2, t2) qo cJ (fun q : Nat => s.heap.size ≤ q) s st mt ov H locs → lv_has ls 7 [(0, .ref b), (1, .ref (ad1 0)), (2, .ref (ad2 0)), (3, .ref qo), (4, .int x4)] → W p l e room_1 s m #[Value.ref b] below meth c H locs (42 + k2) (S0n + 6 * k2) (lw_Z below #[Value.ref b] s) (F0 m 23 ls [])) : W p l e room_1 s m #[Value.ref b] below meth c H locs (42 + k) (S0n + 6 * k) (lw_Z below #[Value.ref b] s) (F0 m 382 ls []) := by
  obtain ⟨hx, hb, hr, hml, hown, hts, hX, hbl, hlocks, hgv⟩ := C0
  have hA : ∀ q : Nat, s.heap.size ≤ q → (fun q : Nat => s.heap.size ≤ q) q := fun _ h => h
  have hbA : ¬ (fun q : Nat => s.heap.size ≤ q) b := Nat.not_le.mpr hbl
  have hk64 : k < 64 := by omega
  have rc0 : room_1.cells = 175 := rfl
  have rs0 : room_1.slots = 79122 := rfl
  have s00 : S0n = 78068 := rfl
  have hcc : 42 + k ≤ room_1.cells := by omega
  have hss : S0n + 6 * k ≤ room_1.slots := by omega
  have hix1 : vp_in (x4 + (1 : Int32)) L := by rw [ex4]; exact ixL k 1 (by omega) (by omega) (by omega)
  have hcl1 : xs (x4 + (1 : Int32)).toNatClampNeg = xs (4 * k + 1) := by rw [ex4]; exact congrArg xs (clL k 1 (by omega) (by omega))
  have hix2 : vp_in (x4 + (2 : Int32)) L := by rw [ex4]; exact ixL k 2 (by omega) (by omega) (by omega)
  have hcl2 : xs (x4 + (2 : Int32)).toNatClampNeg = xs (4 * k + 2) := by rw [ex4]; exact congrArg xs (clL k 2 (by omega) (by omega))
  have hix3 : vp_in (x4 + (3 : Int32)) L := by rw [ex4]; exact ixL k 3 (by omega) (by omega) (by omega)
  have hcl3 : xs (x4 + (3 : Int32)).toNatClampNeg = xs (4 * k + 3) := by rw [ex4]; exact congrArg xs (clL k 3 (by omega) (by omega))
  obtain ⟨hO, hTh⟩ := HS.2.2.2.2.2.2.1 k st mt (xs (4 * k + 1)) hk64 hR
  refine lv_aload_n hx hb dL_law_382 rfl (lv_at hl 1 rfl) ?_
  refine lv_aload_n hx hb dL_law_383 rfl (lv_at hl 0 rfl) ?_
  refine lv_iload hx hb dL_law_384 (lv_at hl 4 rfl) ?_
  refine lv_iconst (v := (1 : Int32)) hx hb dL_law_386 (by decide) ?_
  refine lv_iadd hx hb dL_law_387 ?_
  refine va_sld hx hb hX hbl hbA hL.2.2.2.2.2.2 hix1 dL_law_388 ?_
  rw [hcl1]
  refine lv_aload_n hx hb dL_law_389 rfl (lv_at hl 3 rfl) ?_
  obtain ⟨hFh, hpre⟩ := hPre hL.1 hL.2.2.1 hK1 hK3 (dleft (hL.d3 (b := mt))) hA hZ hT_step hL.2.2.2.2.2.2
  refine va_calli (vx_runSW (As := [.ref (ad1 0), .int (xs (4 * k + 1)), .ref qo]) (rest := []) ⟨hx, hb, hml, hown, hts⟩ (c_L_step l hl0 (dC, dI, ad1, ca1, tS) qo cJ st ov (xs (4 * k + 1)) H.size) (vx_cwSW 3 hts (gT_S (fun w h => h) (wLw_in (List.mem_of_getElem? (i := 25) rfl)) (wLw_in (List.mem_of_getElem? (i := 26) rfl)) (wLw_in (List.mem_of_getElem? (i := 10) rfl)) (wLw_in (List.mem_of_getElem? (i := 27) rfl))) rfl rfl rfl ydL_step ⟨Nat.le_of_ble_eq_true rfl, Nat.le_of_ble_eq_true rfl⟩) ⟨hBlind _ _, fun U hU hW => ⟨rfl, hpre U hU hW⟩⟩ rfl rfl hl.1 rfl (lv_room (Nat.le_of_ble_eq_true rfl)) dL_law_390 ⟨by omega, by omega⟩) hL.2.2.2.2.2.2 (fun q _ h => hFh q h) hFh (fun r_ u t H1 locs ht hvm hw hB hz1 hk1 hS => ?_)
  obtain ⟨hB1, hB2⟩ := hB
  rw [ht] at hB1 hB2
  have hBm := keepO hL.d3 hL.2.1 hk1
  have hL : LI (dC, dI) (dC, dI, ad1, ca1, tS) (dC, dI, ad2, ca2, t2) qo cJ (fun q : Nat => s.heap.size ≤ q) s u.1 mt u.2 H1 locs := ⟨hB1, hBm, hB2, hL.2.2.2.1, hL.2.2.2.2.1, hL.2.2.2.2.2.1, hS⟩
  generalize H1 = H at hL ⊢
  have hcc : 42 + k + 1 ≤ room_1.cells := by omega
  have hss : S0n + 6 * k + 6 ≤ room_1.slots := by omega
  rcases hw with ⟨hx1, rfl, rfl⟩ | ⟨Z, hx1, rfl, rfl⟩
  · obtain ⟨-, hth, hR2⟩ := hTh.resolve_right (fun ⟨Z, q, _⟩ => by rw [hx1] at q; cases q)
    have hL : LI (dC, dI) (dC, dI, ad1, ca1, tS) (dC, dI, ad2, ca2, t2) qo cJ (fun q : Nat => s.heap.size ≤ q) s st mt ov H locs := hL
    refine lv_istore (lv' := [(5, .int (1 : Int32)), (0, .ref b), (1, .ref (ad1 0)), (2, .ref (ad2 0)), (3, .ref qo), (4, .int x4)]) hx hb dL_law_393 hl (by decide) rfl (fun ls hl => ?_)
    refine lv_aload_n hx hb dL_law_395 rfl (lv_at hl 3 rfl) ?_
    refine lv_aload_n hx hb dL_law_396 rfl (lv_at hl 1 rfl) ?_
    refine lv_iload hx hb dL_law_397 (lv_at hl 5 rfl) ?_
    refine lv_iconst (v := (1 : Int32)) hx hb dL_law_399 (by decide) ?_
    refine lv_iadd hx hb dL_law_400 ?_
    refine va_sld hx hb hX hbl hbA hL.2.2.2.2.2.2 hix1 dL_law_401 ?_
    rw [hcl1]
    refine cy_Vi (As := [.int (xs (4 * k + 1))]) (rest := []) ⟨hx, hb, hml, hown, hts⟩ (c_m_step l (dC, dI, ad2, ca2, t2) mt (xs (4 * k + 1)) hO) (cwV 1 hts (gT_V (fun w h => wAX_in (wAll_in h)) (wLw_in (List.mem_of_getElem? (i := 30) rfl)) (wAX_in (wAll_in mw736)) (wAX_in (wAll_in mw737)) (wAX_in (wAll_in mw3)) (wAX_in (wAll_in mw738))) rfl rfl rfl yd_yX11_step ⟨Nat.le_of_ble_eq_true rfl, Nat.le_of_ble_eq_true rfl⟩) (va_recv hK2 hL.2.1 (ci := 11) (q0 := 0) rfl rfl) hK2 hA trivial (mz_ok _) hL.2.1 hL.dm hL.2.2.2.2.2.2 rfl hl.1 rfl (Nat.le_of_ble_eq_true rfl) dL_law_402 ⟨hcc, hss⟩ (fun H locs hPn hkk hS => ?_)
    have hL : LI (dC, dI) (dC, dI, ad1, ca1, tS) (dC, dI, ad2, ca2, t2) qo cJ (fun q : Nat => s.heap.size ≤ q) s st (m_step mt (xs (4 * k + 1))).1 ov H locs := hL.mdl hPn hkk hS
    refine lv_istore (lv' := [(6, .int (m_step mt (xs (4 * k + 1))).2), (5, .int (1 : Int32)), (0, .ref b), (1, .ref (ad1 0)), (2, .ref (ad2 0)), (3, .ref qo), (4, .int x4)]) hx hb dL_law_405 hl (by decide) rfl (fun ls hl => ?_)
    refine lv_aload_n hx hb dL_law_407 rfl (lv_at hl 4 rfl) ?_
    refine cy_Vi (As := []) (rest := []) ⟨hx, hb, hml, hown, hts⟩ (c_m_thrown l (dC, dI, ad2, ca2, t2) (m_step mt (xs (4 * k + 1))).1 ) (cwV 0 hts (gT_V (fun w h => wAX_in (wAll_in h)) (wLw_in (List.mem_of_getElem? (i := 15) rfl)) (wAX_in (wAll_in mw253)) (wAX_in (wAll_in mw254)) (wAX_in (wAll_in mw3)) (wAX_in (wAll_in mw255))) rfl rfl rfl yd_yX11_thrown ⟨Nat.le_of_ble_eq_true rfl, Nat.le_of_ble_eq_true rfl⟩) (va_recv hK2 hL.2.1 (ci := 11) (q0 := 0) rfl rfl) hK2 hA trivial (mz_ok _) hL.2.1 hL.dm hL.2.2.2.2.2.2 rfl hl.1 rfl (Nat.le_of_ble_eq_true rfl) dL_law_408 ⟨hcc, hss⟩ (fun H locs hPn hkk hS => ?_)
    have hL : LI (dC, dI) (dC, dI, ad1, ca1, tS) (dC, dI, ad2, ca2, t2) qo cJ (fun q : Nat => s.heap.size ≤ q) s st (m_step mt (xs (4 * k + 1))).1 ov H locs := hL.mdl hPn hkk hS
    refine lv_iload hx hb dL_law_411 (lv_at hl 1 rfl) ?_
    refine lv_icmp_eq (tgt := 418) hx hb dL_law_413 (by decide) (fun _ => ?_) (fun c9 => absurd hth c9)
    refine lv_iload hx hb dL_law_418 (lv_at hl 1 rfl) ?_
    refine lv_if_ne (tgt := 435) hx hb dL_law_420 (by decide) (fun _ => ?_) (fun c9 => absurd c9 (by decide))
    refine lv_goto (tgt := 860) hx hb dL_law_435 (by decide) ?_
    obtain ⟨x5, ex5⟩ : ∃ y : Int32, y = x4 + 4 := ⟨_, rfl⟩
    refine lv_iinc (v := x5) (lv' := [(4, .int x5), (6, .int (m_step mt (xs (4 * k + 1))).2), (5, .int (1 : Int32)), (0, .ref b), (1, .ref (ad1 0)), (2, .ref (ad2 0)), (3, .ref qo)]) hx hb dL_law_860 hl (k := 6) rfl (by rw [ex5]; rfl) (by decide) rfl (fun ls hl => ?_)
    refine lv_goto (tgt := 23) hx hb dL_law_863 (by decide) ?_
    refine W.widen (k := 42 + (k + 1)) (n := S0n + 6 * (k + 1)) (by omega) (by omega) ?_
    exact ih (k + 1) x5 st (m_step mt (xs (4 * k + 1))).1 ov H locs ls (by omega) (by omega) (by rw [ex5, ex4]; exact nI_4 k) hR2 hL (lv_sub hl [3, 4, 5, 6, 0] rfl)
  · obtain ⟨Z2, q1, hth, hE, hR2⟩ := hTh.resolve_left (fun q => by rw [q.1] at hx1; cases hx1)
    obtain rfl : Z = Z2 := Option.some.inj (hx1.symm.trans q1)
    have hL : LI (dC, dI) (dC, dI, ad1, ca1, tS) (dC, dI, ad2, ca2, t2) qo cJ (fun q : Nat => s.heap.size ≤ q) s Z.1 mt (vp_updL ov (0 : Int32).toNatClampNeg Z.2.toInt64) H locs := hL
    refine lv_istore (lv' := [(5, .int (0 : Int32)), (0, .ref b), (1, .ref (ad1 0)), (2, .ref (ad2 0)), (3, .ref qo), (4, .int x4)]) hx hb dL_law_393 hl (by decide) rfl (fun ls hl => ?_)
    refine lv_aload_n hx hb dL_law_395 rfl (lv_at hl 3 rfl) ?_
    refine lv_aload_n hx hb dL_law_396 rfl (lv_at hl 1 rfl) ?_
    refine lv_iload hx hb dL_law_397 (lv_at hl 5 rfl) ?_
    refine lv_iconst (v := (1 : Int32)) hx hb dL_law_399 (by decide) ?_
    refine lv_iadd hx hb dL_law_400 ?_
    refine va_sld hx hb hX hbl hbA hL.2.2.2.2.2.2 hix1 dL_law_401 ?_
    rw [hcl1]
    refine cy_Vi (As := [.int (xs (4 * k + 1))]) (rest := []) ⟨hx, hb, hml, hown, hts⟩ (c_m_step l (dC, dI, ad2, ca2, t2) mt (xs (4 * k + 1)) hO) (cwV 1 hts (gT_V (fun w h => wAX_in (wAll_in h)) (wLw_in (List.mem_of_getElem? (i := 30) rfl)) (wAX_in (wAll_in mw736)) (wAX_in (wAll_in mw737)) (wAX_in (wAll_in mw3)) (wAX_in (wAll_in mw738))) rfl rfl rfl yd_yX11_step ⟨Nat.le_of_ble_eq_true rfl, Nat.le_of_ble_eq_true rfl⟩) (va_recv hK2 hL.2.1 (ci := 11) (q0 := 0) rfl rfl) hK2 hA trivial (mz_ok _) hL.2.1 hL.dm hL.2.2.2.2.2.2 rfl hl.1 rfl (Nat.le_of_ble_eq_true rfl) dL_law_402 ⟨hcc, hss⟩ (fun H locs hPn hkk hS => ?_)
    have hL : LI (dC, dI) (dC, dI, ad1, ca1, tS) (dC, dI, ad2, ca2, t2) qo cJ (fun q : Nat => s.heap.size ≤ q) s Z.1 (m_step mt (xs (4 * k + 1))).1 (vp_updL ov (0 : Int32).toNatClampNeg Z.2.toInt64) H locs := hL.mdl hPn hkk hS
    refine lv_istore (lv' := [(6, .int (m_step mt (xs (4 * k + 1))).2), (5, .int (0 : Int32)), (0, .ref b), (1, .ref (ad1 0)), (2, .ref (ad2 0)), (3, .ref qo), (4, .int x4)]) hx hb dL_law_405 hl (by decide) rfl (fun ls hl => ?_)
    refine lv_aload_n hx hb dL_law_407 rfl (lv_at hl 4 rfl) ?_
    refine cy_Vi (As := []) (rest := []) ⟨hx, hb, hml, hown, hts⟩ (c_m_thrown l (dC, dI, ad2, ca2, t2) (m_step mt (xs (4 * k + 1))).1 ) (cwV 0 hts (gT_V (fun w h => wAX_in (wAll_in h)) (wLw_in (List.mem_of_getElem? (i := 15) rfl)) (wAX_in (wAll_in mw253)) (wAX_in (wAll_in mw254)) (wAX_in (wAll_in mw3)) (wAX_in (wAll_in mw255))) rfl rfl rfl yd_yX11_thrown ⟨Nat.le_of_ble_eq_true rfl, Nat.le_of_ble_eq_true rfl⟩) (va_recv hK2 hL.2.1 (ci := 11) (q0 := 0) rfl rfl) hK2 hA trivial (mz_ok _) hL.2.1 hL.dm hL.2.2.2.2.2.2 rfl hl.1 rfl (Nat.le_of_ble_eq_true rfl) dL_law_408 ⟨hcc, hss⟩ (fun H locs hPn hkk hS => ?_)
    have hL : LI (dC, dI) (dC, dI, ad1, ca1, tS) (dC, dI, ad2, ca2, t2) qo cJ (fun q : Nat => s.heap.size ≤ q) s Z.1 (m_step mt (xs (4 * k + 1))).1 (vp_updL ov (0 : Int32).toNatClampNeg Z.2.toInt64) H locs := hL.mdl hPn hkk hS
    refine lv_iload hx hb dL_law_411 (lv_at hl 1 rfl) ?_
    refine lv_icmp_eq (tgt := 418) hx hb dL_law_413 (by decide) (fun _ => ?_) (fun c9 => absurd hth c9)
    refine lv_iload hx hb dL_law_418 (lv_at hl 1 rfl) ?_
    refine lv_if_ne (tgt := 435) hx hb dL_law_420 (by decide) (fun c9 => absurd rfl c9) (fun _ => ?_)
    refine lv_aload_n hx hb dL_law_423 rfl (lv_at hl 5 rfl) ?_
    refine lv_iconst (v := (0 : Int32)) hx hb dL_law_424 (by decide) ?_
    refine va_lald (f := (vp_updL ov (0 : Int32).toNatClampNeg Z.2.toInt64)) hx hb hK3 hL.2.2.1 0 0 rfl rfl (by unfold vp_in; decide) dL_law_425 ?_
    refine lv_iload hx hb dL_law_426 (lv_at hl 0 rfl) ?_
    refine lv_i2l (v := (m_step mt (xs (4 * k + 1))).2.toInt64) hx hb dL_law_428 rfl ?_
    refine W.lcmp hx hb dL_law_429 ?_
    refine lv_if_eq (tgt := 435) hx hb dL_law_430 (by decide) (fun _ => ?_) (fun c9 => absurd (show lg_cmp (vp_updL ov (0 : Int32).toNatClampNeg Z.2.toInt64 (0 : Int32).toNatClampNeg) (m_step mt (xs (4 * k + 1))).2.toInt64 = 0 by rw [pk_uLs, hE]; exact lgc _) c9)
    refine lv_goto (tgt := 860) hx hb dL_law_435 (by decide) ?_
    obtain ⟨x5, ex5⟩ : ∃ y : Int32, y = x4 + 4 := ⟨_, rfl⟩
    refine lv_iinc (v := x5) (lv' := [(4, .int x5), (6, .int (m_step mt (xs (4 * k + 1))).2), (5, .int (0 : Int32)), (0, .ref b), (1, .ref (ad1 0)), (2, .ref (ad2 0)), (3, .ref qo)]) hx hb dL_law_860 hl (k := 6) rfl (by rw [ex5]; rfl) (by decide) rfl (fun ls hl => ?_)
    refine lv_goto (tgt := 23) hx hb dL_law_863 (by decide) ?_
    refine W.widen (k := 42 + (k + 1)) (n := S0n + 6 * (k + 1)) (by omega) (by omega) ?_
    exact ih (k + 1) x5 Z.1 (m_step mt (xs (4 * k + 1))).1 (vp_updL ov (0 : Int32).toNatClampNeg Z.2.toInt64) H locs ls (by omega) (by omega) (by rw [ex5, ex4]; exact nI_4 k) hR2 hL (lv_sub hl [3, 4, 5, 6, 0] rfl)
set_option maxHeartbeats 4000000 in
set_option maxRecDepth 100000 in
theorem law_case_run (Rel : Nat → CS → CS → Prop) (HS : SimAll Rel) {p : Program} {l : Launch} {e : Env} {s : State} {m : MethodId} {below : List Frame} {meth : Method} {c : Code} {dC : Nat → ClassId} {dI : Nat → Nat → Nat} {ad1 ad2 : Nat → Nat} {ca1 ca2 : Nat → ClassId} {tS t2 qo : Nat} {cJ : ClassId} {b L : Nat} {xs : Nat → Int32} (hLn : L ≤ 256) (hl0 : l.stackTraces = false) (C0 : lw_At p s m meth c b L xs) (hK1 : va_K (dC, dI) vwCl (cty (dC, dI, ad1, ca1, tS)) s) (hK2 : va_K (dC, dI) vwCl (mty (dC, dI, ad2, ca2, t2)) s) (hK3 : va_K (dC, dI) vwCl [(cJ, .long)] s) (hZ : cz (dC, dI, ad1, ca1, tS) (fun q : Nat => s.heap.size ≤ q) s s.heap) (hT_peek : tP "java/lang/IndexOutOfBoundsException" 95 "no such word of MEMORY" (fun q : Nat => s.heap.size ≤ q) s s.heap) (hT_stored : tP "java/lang/IndexOutOfBoundsException" 108 "no such word of a SECTOR" (fun q : Nat => s.heap.size ≤ q) s s.heap) (hT_step : tP "java/lang/IllegalArgumentException" 120 "not 1 .. 5000 STEPS" (fun q : Nat => s.heap.size ≤ q) s s.heap) (hT_run : tP "java/lang/IllegalArgumentException" 131 "not 1 .. 20000 TICKS" (fun q : Nat => s.heap.size ≤ q) s s.heap) (hT_register : tP "java/lang/IndexOutOfBoundsException" 138 "no such register" (fun q : Nat => s.heap.size ≤ q) s s.heap) (k : Nat) (x4 : Int32) (st mt : CS) (ov : Nat → Int64) (H : Heap) (locs : List Loc) (ls : Array Slot) (h4 : 4 * k + 4 ≤ L) (ex4 : x4 = nI (4 * k)) (hR : Rel k st mt) (hL : LI (dC, dI) (dC, dI, ad1, ca1, tS) (dC, dI, ad2, ca2, t2) qo cJ (fun q : Nat => s.heap.size ≤ q) s st mt ov H locs) (hl : lv_has ls 7 [(0, .ref b), (1, .ref (ad1 0)), (2, .ref (ad2 0)), (3, .ref qo), (4, .int x4)])
    (ih : ∀ (k2 : Nat) (x4 : Int32) (st mt : CS) (ov : Nat → Int64) (H : Heap) (locs : List Loc) (ls : Array Slot), k2 = k + 1 → 4 * k2 ≤ L → x4 = nI (4 * k2) → Rel k2 st mt → LI (dC, dI) (dC, dI, ad1, ca1, tS) (dC, dI, ad2, ca2, t2) qo cJ (fun q : Nat => s.heap.size ≤ q) s st mt ov H locs → lv_has ls 7 [(0, .ref b), (1, .ref (ad1 0)), (2, .ref (ad2 0)), (3, .ref qo), (4, .int x4)] → W p l e room_1 s m #[Value.ref b] below meth c H locs (42 + k2) (S0n + 6 * k2) (lw_Z below #[Value.ref b] s) (F0 m 23 ls [])) : W p l e room_1 s m #[Value.ref b] below meth c H locs (42 + k) (S0n + 6 * k) (lw_Z below #[Value.ref b] s) (F0 m 438 ls []) := by
  obtain ⟨hx, hb, hr, hml, hown, hts, hX, hbl, hlocks, hgv⟩ := C0
  have hA : ∀ q : Nat, s.heap.size ≤ q → (fun q : Nat => s.heap.size ≤ q) q := fun _ h => h
  have hbA : ¬ (fun q : Nat => s.heap.size ≤ q) b := Nat.not_le.mpr hbl
  have hk64 : k < 64 := by omega
  have rc0 : room_1.cells = 175 := rfl
  have rs0 : room_1.slots = 79122 := rfl
  have s00 : S0n = 78068 := rfl
  have hcc : 42 + k ≤ room_1.cells := by omega
  have hss : S0n + 6 * k ≤ room_1.slots := by omega
  have hix1 : vp_in (x4 + (1 : Int32)) L := by rw [ex4]; exact ixL k 1 (by omega) (by omega) (by omega)
  have hcl1 : xs (x4 + (1 : Int32)).toNatClampNeg = xs (4 * k + 1) := by rw [ex4]; exact congrArg xs (clL k 1 (by omega) (by omega))
  have hix2 : vp_in (x4 + (2 : Int32)) L := by rw [ex4]; exact ixL k 2 (by omega) (by omega) (by omega)
  have hcl2 : xs (x4 + (2 : Int32)).toNatClampNeg = xs (4 * k + 2) := by rw [ex4]; exact congrArg xs (clL k 2 (by omega) (by omega))
  have hix3 : vp_in (x4 + (3 : Int32)) L := by rw [ex4]; exact ixL k 3 (by omega) (by omega) (by omega)
  have hcl3 : xs (x4 + (3 : Int32)).toNatClampNeg = xs (4 * k + 3) := by rw [ex4]; exact congrArg xs (clL k 3 (by omega) (by omega))
  obtain ⟨hO, hTh⟩ := HS.2.2.2.2.2.2.2.1 k st mt (xs (4 * k + 1)) hk64 hR
  refine lv_aload_n hx hb dL_law_438 rfl (lv_at hl 1 rfl) ?_
  refine lv_aload_n hx hb dL_law_439 rfl (lv_at hl 0 rfl) ?_
  refine lv_iload hx hb dL_law_440 (lv_at hl 4 rfl) ?_
  refine lv_iconst (v := (1 : Int32)) hx hb dL_law_442 (by decide) ?_
  refine lv_iadd hx hb dL_law_443 ?_
  refine va_sld hx hb hX hbl hbA hL.2.2.2.2.2.2 hix1 dL_law_444 ?_
  rw [hcl1]
  refine lv_aload_n hx hb dL_law_445 rfl (lv_at hl 3 rfl) ?_
  obtain ⟨hFh, hpre⟩ := hPre hL.1 hL.2.2.1 hK1 hK3 (dleft (hL.d3 (b := mt))) hA hZ hT_run hL.2.2.2.2.2.2
  refine va_calli (vx_runSW (As := [.ref (ad1 0), .int (xs (4 * k + 1)), .ref qo]) (rest := []) ⟨hx, hb, hml, hown, hts⟩ (c_L_run l hl0 (dC, dI, ad1, ca1, tS) qo cJ st ov (xs (4 * k + 1)) H.size) (vx_cwSW 3 hts (gT_S (fun w h => h) (wLw_in (List.mem_of_getElem? (i := 31) rfl)) (wLw_in (List.mem_of_getElem? (i := 32) rfl)) (wLw_in (List.mem_of_getElem? (i := 10) rfl)) (wLw_in (List.mem_of_getElem? (i := 33) rfl))) rfl rfl rfl ydL_run ⟨Nat.le_of_ble_eq_true rfl, Nat.le_of_ble_eq_true rfl⟩) ⟨hBlind _ _, fun U hU hW => ⟨rfl, hpre U hU hW⟩⟩ rfl rfl hl.1 rfl (lv_room (Nat.le_of_ble_eq_true rfl)) dL_law_446 ⟨by omega, by omega⟩) hL.2.2.2.2.2.2 (fun q _ h => hFh q h) hFh (fun r_ u t H1 locs ht hvm hw hB hz1 hk1 hS => ?_)
  obtain ⟨hB1, hB2⟩ := hB
  rw [ht] at hB1 hB2
  have hBm := keepO hL.d3 hL.2.1 hk1
  have hL : LI (dC, dI) (dC, dI, ad1, ca1, tS) (dC, dI, ad2, ca2, t2) qo cJ (fun q : Nat => s.heap.size ≤ q) s u.1 mt u.2 H1 locs := ⟨hB1, hBm, hB2, hL.2.2.2.1, hL.2.2.2.2.1, hL.2.2.2.2.2.1, hS⟩
  generalize H1 = H at hL ⊢
  have hcc : 42 + k + 1 ≤ room_1.cells := by omega
  have hss : S0n + 6 * k + 6 ≤ room_1.slots := by omega
  rcases hw with ⟨hx1, rfl, rfl⟩ | ⟨Z, hx1, rfl, rfl⟩
  · obtain ⟨-, hth, hR2⟩ := hTh.resolve_right (fun ⟨Z, q, _⟩ => by rw [hx1] at q; cases q)
    have hL : LI (dC, dI) (dC, dI, ad1, ca1, tS) (dC, dI, ad2, ca2, t2) qo cJ (fun q : Nat => s.heap.size ≤ q) s st mt ov H locs := hL
    refine lv_istore (lv' := [(5, .int (1 : Int32)), (0, .ref b), (1, .ref (ad1 0)), (2, .ref (ad2 0)), (3, .ref qo), (4, .int x4)]) hx hb dL_law_449 hl (by decide) rfl (fun ls hl => ?_)
    refine lv_aload_n hx hb dL_law_451 rfl (lv_at hl 3 rfl) ?_
    refine lv_aload_n hx hb dL_law_452 rfl (lv_at hl 1 rfl) ?_
    refine lv_iload hx hb dL_law_453 (lv_at hl 5 rfl) ?_
    refine lv_iconst (v := (1 : Int32)) hx hb dL_law_455 (by decide) ?_
    refine lv_iadd hx hb dL_law_456 ?_
    refine va_sld hx hb hX hbl hbA hL.2.2.2.2.2.2 hix1 dL_law_457 ?_
    rw [hcl1]
    refine cy_Vi (As := [.int (xs (4 * k + 1))]) (rest := []) ⟨hx, hb, hml, hown, hts⟩ (c_m_run l (dC, dI, ad2, ca2, t2) mt (xs (4 * k + 1)) hO) (cwV 1 hts (gT_V (fun w h => wAX_in (wAll_in h)) (wLw_in (List.mem_of_getElem? (i := 35) rfl)) (wAX_in (wAll_in mw946)) (wAX_in (wAll_in mw947)) (wAX_in (wAll_in mw3)) (wAX_in (wAll_in mw948))) rfl rfl rfl yd_yX11_run ⟨Nat.le_of_ble_eq_true rfl, Nat.le_of_ble_eq_true rfl⟩) (va_recv hK2 hL.2.1 (ci := 11) (q0 := 0) rfl rfl) hK2 hA trivial (mz_ok _) hL.2.1 hL.dm hL.2.2.2.2.2.2 rfl hl.1 rfl (Nat.le_of_ble_eq_true rfl) dL_law_458 ⟨hcc, hss⟩ (fun H locs hPn hkk hS => ?_)
    have hL : LI (dC, dI) (dC, dI, ad1, ca1, tS) (dC, dI, ad2, ca2, t2) qo cJ (fun q : Nat => s.heap.size ≤ q) s st (m_run mt (xs (4 * k + 1))).1 ov H locs := hL.mdl hPn hkk hS
    refine lv_istore (lv' := [(6, .int (m_run mt (xs (4 * k + 1))).2), (5, .int (1 : Int32)), (0, .ref b), (1, .ref (ad1 0)), (2, .ref (ad2 0)), (3, .ref qo), (4, .int x4)]) hx hb dL_law_461 hl (by decide) rfl (fun ls hl => ?_)
    refine lv_aload_n hx hb dL_law_463 rfl (lv_at hl 4 rfl) ?_
    refine cy_Vi (As := []) (rest := []) ⟨hx, hb, hml, hown, hts⟩ (c_m_thrown l (dC, dI, ad2, ca2, t2) (m_run mt (xs (4 * k + 1))).1 ) (cwV 0 hts (gT_V (fun w h => wAX_in (wAll_in h)) (wLw_in (List.mem_of_getElem? (i := 15) rfl)) (wAX_in (wAll_in mw253)) (wAX_in (wAll_in mw254)) (wAX_in (wAll_in mw3)) (wAX_in (wAll_in mw255))) rfl rfl rfl yd_yX11_thrown ⟨Nat.le_of_ble_eq_true rfl, Nat.le_of_ble_eq_true rfl⟩) (va_recv hK2 hL.2.1 (ci := 11) (q0 := 0) rfl rfl) hK2 hA trivial (mz_ok _) hL.2.1 hL.dm hL.2.2.2.2.2.2 rfl hl.1 rfl (Nat.le_of_ble_eq_true rfl) dL_law_464 ⟨hcc, hss⟩ (fun H locs hPn hkk hS => ?_)
    have hL : LI (dC, dI) (dC, dI, ad1, ca1, tS) (dC, dI, ad2, ca2, t2) qo cJ (fun q : Nat => s.heap.size ≤ q) s st (m_run mt (xs (4 * k + 1))).1 ov H locs := hL.mdl hPn hkk hS
    refine lv_iload hx hb dL_law_467 (lv_at hl 1 rfl) ?_
    refine lv_icmp_eq (tgt := 474) hx hb dL_law_469 (by decide) (fun _ => ?_) (fun c9 => absurd hth c9)
    refine lv_iload hx hb dL_law_474 (lv_at hl 1 rfl) ?_
    refine lv_if_ne (tgt := 491) hx hb dL_law_476 (by decide) (fun _ => ?_) (fun c9 => absurd c9 (by decide))
    refine lv_goto (tgt := 860) hx hb dL_law_491 (by decide) ?_
    obtain ⟨x5, ex5⟩ : ∃ y : Int32, y = x4 + 4 := ⟨_, rfl⟩
    refine lv_iinc (v := x5) (lv' := [(4, .int x5), (6, .int (m_run mt (xs (4 * k + 1))).2), (5, .int (1 : Int32)), (0, .ref b), (1, .ref (ad1 0)), (2, .ref (ad2 0)), (3, .ref qo)]) hx hb dL_law_860 hl (k := 6) rfl (by rw [ex5]; rfl) (by decide) rfl (fun ls hl => ?_)
    refine lv_goto (tgt := 23) hx hb dL_law_863 (by decide) ?_
    refine W.widen (k := 42 + (k + 1)) (n := S0n + 6 * (k + 1)) (by omega) (by omega) ?_
    exact ih (k + 1) x5 st (m_run mt (xs (4 * k + 1))).1 ov H locs ls (by omega) (by omega) (by rw [ex5, ex4]; exact nI_4 k) hR2 hL (lv_sub hl [3, 4, 5, 6, 0] rfl)
  · obtain ⟨Z2, q1, hth, hE, hR2⟩ := hTh.resolve_left (fun q => by rw [q.1] at hx1; cases hx1)
    obtain rfl : Z = Z2 := Option.some.inj (hx1.symm.trans q1)
    have hL : LI (dC, dI) (dC, dI, ad1, ca1, tS) (dC, dI, ad2, ca2, t2) qo cJ (fun q : Nat => s.heap.size ≤ q) s Z.1 mt (vp_updL ov (0 : Int32).toNatClampNeg Z.2.toInt64) H locs := hL
    refine lv_istore (lv' := [(5, .int (0 : Int32)), (0, .ref b), (1, .ref (ad1 0)), (2, .ref (ad2 0)), (3, .ref qo), (4, .int x4)]) hx hb dL_law_449 hl (by decide) rfl (fun ls hl => ?_)
    refine lv_aload_n hx hb dL_law_451 rfl (lv_at hl 3 rfl) ?_
    refine lv_aload_n hx hb dL_law_452 rfl (lv_at hl 1 rfl) ?_
    refine lv_iload hx hb dL_law_453 (lv_at hl 5 rfl) ?_
    refine lv_iconst (v := (1 : Int32)) hx hb dL_law_455 (by decide) ?_
    refine lv_iadd hx hb dL_law_456 ?_
    refine va_sld hx hb hX hbl hbA hL.2.2.2.2.2.2 hix1 dL_law_457 ?_
    rw [hcl1]
    refine cy_Vi (As := [.int (xs (4 * k + 1))]) (rest := []) ⟨hx, hb, hml, hown, hts⟩ (c_m_run l (dC, dI, ad2, ca2, t2) mt (xs (4 * k + 1)) hO) (cwV 1 hts (gT_V (fun w h => wAX_in (wAll_in h)) (wLw_in (List.mem_of_getElem? (i := 35) rfl)) (wAX_in (wAll_in mw946)) (wAX_in (wAll_in mw947)) (wAX_in (wAll_in mw3)) (wAX_in (wAll_in mw948))) rfl rfl rfl yd_yX11_run ⟨Nat.le_of_ble_eq_true rfl, Nat.le_of_ble_eq_true rfl⟩) (va_recv hK2 hL.2.1 (ci := 11) (q0 := 0) rfl rfl) hK2 hA trivial (mz_ok _) hL.2.1 hL.dm hL.2.2.2.2.2.2 rfl hl.1 rfl (Nat.le_of_ble_eq_true rfl) dL_law_458 ⟨hcc, hss⟩ (fun H locs hPn hkk hS => ?_)
    have hL : LI (dC, dI) (dC, dI, ad1, ca1, tS) (dC, dI, ad2, ca2, t2) qo cJ (fun q : Nat => s.heap.size ≤ q) s Z.1 (m_run mt (xs (4 * k + 1))).1 (vp_updL ov (0 : Int32).toNatClampNeg Z.2.toInt64) H locs := hL.mdl hPn hkk hS
    refine lv_istore (lv' := [(6, .int (m_run mt (xs (4 * k + 1))).2), (5, .int (0 : Int32)), (0, .ref b), (1, .ref (ad1 0)), (2, .ref (ad2 0)), (3, .ref qo), (4, .int x4)]) hx hb dL_law_461 hl (by decide) rfl (fun ls hl => ?_)
    refine lv_aload_n hx hb dL_law_463 rfl (lv_at hl 4 rfl) ?_
    refine cy_Vi (As := []) (rest := []) ⟨hx, hb, hml, hown, hts⟩ (c_m_thrown l (dC, dI, ad2, ca2, t2) (m_run mt (xs (4 * k + 1))).1 ) (cwV 0 hts (gT_V (fun w h => wAX_in (wAll_in h)) (wLw_in (List.mem_of_getElem? (i := 15) rfl)) (wAX_in (wAll_in mw253)) (wAX_in (wAll_in mw254)) (wAX_in (wAll_in mw3)) (wAX_in (wAll_in mw255))) rfl rfl rfl yd_yX11_thrown ⟨Nat.le_of_ble_eq_true rfl, Nat.le_of_ble_eq_true rfl⟩) (va_recv hK2 hL.2.1 (ci := 11) (q0 := 0) rfl rfl) hK2 hA trivial (mz_ok _) hL.2.1 hL.dm hL.2.2.2.2.2.2 rfl hl.1 rfl (Nat.le_of_ble_eq_true rfl) dL_law_464 ⟨hcc, hss⟩ (fun H locs hPn hkk hS => ?_)
    have hL : LI (dC, dI) (dC, dI, ad1, ca1, tS) (dC, dI, ad2, ca2, t2) qo cJ (fun q : Nat => s.heap.size ≤ q) s Z.1 (m_run mt (xs (4 * k + 1))).1 (vp_updL ov (0 : Int32).toNatClampNeg Z.2.toInt64) H locs := hL.mdl hPn hkk hS
    refine lv_iload hx hb dL_law_467 (lv_at hl 1 rfl) ?_
    refine lv_icmp_eq (tgt := 474) hx hb dL_law_469 (by decide) (fun _ => ?_) (fun c9 => absurd hth c9)
    refine lv_iload hx hb dL_law_474 (lv_at hl 1 rfl) ?_
    refine lv_if_ne (tgt := 491) hx hb dL_law_476 (by decide) (fun c9 => absurd rfl c9) (fun _ => ?_)
    refine lv_aload_n hx hb dL_law_479 rfl (lv_at hl 5 rfl) ?_
    refine lv_iconst (v := (0 : Int32)) hx hb dL_law_480 (by decide) ?_
    refine va_lald (f := (vp_updL ov (0 : Int32).toNatClampNeg Z.2.toInt64)) hx hb hK3 hL.2.2.1 0 0 rfl rfl (by unfold vp_in; decide) dL_law_481 ?_
    refine lv_iload hx hb dL_law_482 (lv_at hl 0 rfl) ?_
    refine lv_i2l (v := (m_run mt (xs (4 * k + 1))).2.toInt64) hx hb dL_law_484 rfl ?_
    refine W.lcmp hx hb dL_law_485 ?_
    refine lv_if_eq (tgt := 491) hx hb dL_law_486 (by decide) (fun _ => ?_) (fun c9 => absurd (show lg_cmp (vp_updL ov (0 : Int32).toNatClampNeg Z.2.toInt64 (0 : Int32).toNatClampNeg) (m_run mt (xs (4 * k + 1))).2.toInt64 = 0 by rw [pk_uLs, hE]; exact lgc _) c9)
    refine lv_goto (tgt := 860) hx hb dL_law_491 (by decide) ?_
    obtain ⟨x5, ex5⟩ : ∃ y : Int32, y = x4 + 4 := ⟨_, rfl⟩
    refine lv_iinc (v := x5) (lv' := [(4, .int x5), (6, .int (m_run mt (xs (4 * k + 1))).2), (5, .int (0 : Int32)), (0, .ref b), (1, .ref (ad1 0)), (2, .ref (ad2 0)), (3, .ref qo)]) hx hb dL_law_860 hl (k := 6) rfl (by rw [ex5]; rfl) (by decide) rfl (fun ls hl => ?_)
    refine lv_goto (tgt := 23) hx hb dL_law_863 (by decide) ?_
    refine W.widen (k := 42 + (k + 1)) (n := S0n + 6 * (k + 1)) (by omega) (by omega) ?_
    exact ih (k + 1) x5 Z.1 (m_run mt (xs (4 * k + 1))).1 (vp_updL ov (0 : Int32).toNatClampNeg Z.2.toInt64) H locs ls (by omega) (by omega) (by rw [ex5, ex4]; exact nI_4 k) hR2 hL (lv_sub hl [3, 4, 5, 6, 0] rfl)
set_option maxHeartbeats 4000000 in
set_option maxRecDepth 100000 in
theorem law_case_stopAt (Rel : Nat → CS → CS → Prop) (HS : SimAll Rel) {p : Program} {l : Launch} {e : Env} {s : State} {m : MethodId} {below : List Frame} {meth : Method} {c : Code} {dC : Nat → ClassId} {dI : Nat → Nat → Nat} {ad1 ad2 : Nat → Nat} {ca1 ca2 : Nat → ClassId} {tS t2 qo : Nat} {cJ : ClassId} {b L : Nat} {xs : Nat → Int32} (hLn : L ≤ 256) (hl0 : l.stackTraces = false) (C0 : lw_At p s m meth c b L xs) (hK1 : va_K (dC, dI) vwCl (cty (dC, dI, ad1, ca1, tS)) s) (hK2 : va_K (dC, dI) vwCl (mty (dC, dI, ad2, ca2, t2)) s) (hK3 : va_K (dC, dI) vwCl [(cJ, .long)] s) (hZ : cz (dC, dI, ad1, ca1, tS) (fun q : Nat => s.heap.size ≤ q) s s.heap) (hT_peek : tP "java/lang/IndexOutOfBoundsException" 95 "no such word of MEMORY" (fun q : Nat => s.heap.size ≤ q) s s.heap) (hT_stored : tP "java/lang/IndexOutOfBoundsException" 108 "no such word of a SECTOR" (fun q : Nat => s.heap.size ≤ q) s s.heap) (hT_step : tP "java/lang/IllegalArgumentException" 120 "not 1 .. 5000 STEPS" (fun q : Nat => s.heap.size ≤ q) s s.heap) (hT_run : tP "java/lang/IllegalArgumentException" 131 "not 1 .. 20000 TICKS" (fun q : Nat => s.heap.size ≤ q) s s.heap) (hT_register : tP "java/lang/IndexOutOfBoundsException" 138 "no such register" (fun q : Nat => s.heap.size ≤ q) s s.heap) (k : Nat) (x4 : Int32) (st mt : CS) (ov : Nat → Int64) (H : Heap) (locs : List Loc) (ls : Array Slot) (h4 : 4 * k + 4 ≤ L) (ex4 : x4 = nI (4 * k)) (hR : Rel k st mt) (hL : LI (dC, dI) (dC, dI, ad1, ca1, tS) (dC, dI, ad2, ca2, t2) qo cJ (fun q : Nat => s.heap.size ≤ q) s st mt ov H locs) (hl : lv_has ls 7 [(0, .ref b), (1, .ref (ad1 0)), (2, .ref (ad2 0)), (3, .ref qo), (4, .int x4)])
    (ih : ∀ (k2 : Nat) (x4 : Int32) (st mt : CS) (ov : Nat → Int64) (H : Heap) (locs : List Loc) (ls : Array Slot), k2 = k + 1 → 4 * k2 ≤ L → x4 = nI (4 * k2) → Rel k2 st mt → LI (dC, dI) (dC, dI, ad1, ca1, tS) (dC, dI, ad2, ca2, t2) qo cJ (fun q : Nat => s.heap.size ≤ q) s st mt ov H locs → lv_has ls 7 [(0, .ref b), (1, .ref (ad1 0)), (2, .ref (ad2 0)), (3, .ref qo), (4, .int x4)] → W p l e room_1 s m #[Value.ref b] below meth c H locs (42 + k2) (S0n + 6 * k2) (lw_Z below #[Value.ref b] s) (F0 m 23 ls [])) : W p l e room_1 s m #[Value.ref b] below meth c H locs (42 + k) (S0n + 6 * k) (lw_Z below #[Value.ref b] s) (F0 m 494 ls []) := by
  obtain ⟨hx, hb, hr, hml, hown, hts, hX, hbl, hlocks, hgv⟩ := C0
  have hA : ∀ q : Nat, s.heap.size ≤ q → (fun q : Nat => s.heap.size ≤ q) q := fun _ h => h
  have hbA : ¬ (fun q : Nat => s.heap.size ≤ q) b := Nat.not_le.mpr hbl
  have hk64 : k < 64 := by omega
  have rc0 : room_1.cells = 175 := rfl
  have rs0 : room_1.slots = 79122 := rfl
  have s00 : S0n = 78068 := rfl
  have hcc : 42 + k ≤ room_1.cells := by omega
  have hss : S0n + 6 * k ≤ room_1.slots := by omega
  have hix1 : vp_in (x4 + (1 : Int32)) L := by rw [ex4]; exact ixL k 1 (by omega) (by omega) (by omega)
  have hcl1 : xs (x4 + (1 : Int32)).toNatClampNeg = xs (4 * k + 1) := by rw [ex4]; exact congrArg xs (clL k 1 (by omega) (by omega))
  have hix2 : vp_in (x4 + (2 : Int32)) L := by rw [ex4]; exact ixL k 2 (by omega) (by omega) (by omega)
  have hcl2 : xs (x4 + (2 : Int32)).toNatClampNeg = xs (4 * k + 2) := by rw [ex4]; exact congrArg xs (clL k 2 (by omega) (by omega))
  have hix3 : vp_in (x4 + (3 : Int32)) L := by rw [ex4]; exact ixL k 3 (by omega) (by omega) (by omega)
  have hcl3 : xs (x4 + (3 : Int32)).toNatClampNeg = xs (4 * k + 3) := by rw [ex4]; exact congrArg xs (clL k 3 (by omega) (by omega))
  obtain ⟨hE, hR2⟩ := HS.2.2.2.2.2.2.2.2.1 k st mt (xs (4 * k + 1)) hk64 hR
  refine lv_aload_n hx hb dL_law_494 rfl (lv_at hl 1 rfl) ?_
  refine lv_aload_n hx hb dL_law_495 rfl (lv_at hl 0 rfl) ?_
  refine lv_iload hx hb dL_law_496 (lv_at hl 4 rfl) ?_
  refine lv_iconst (v := (1 : Int32)) hx hb dL_law_498 (by decide) ?_
  refine lv_iadd hx hb dL_law_499 ?_
  refine va_sld hx hb hX hbl hbA hL.2.2.2.2.2.2 hix1 dL_law_500 ?_
  rw [hcl1]
  refine cy_Vi (As := [.int (xs (4 * k + 1))]) (rest := []) ⟨hx, hb, hml, hown, hts⟩ (c_cPageBoard_stopAt l (dC, dI, ad1, ca1, tS) st (xs (4 * k + 1))) (cwV 1 hts (gT_V (fun w h => wAX_in (wAll_in h)) (wLw_in (List.mem_of_getElem? (i := 36) rfl)) (wAX_in (wAll_in mw949)) (wAX_in (wAll_in mw950)) (wAX_in (wAll_in mw1)) (wAX_in (wAll_in mw951))) rfl rfl rfl yd_yX10_stopAt ⟨Nat.le_of_ble_eq_true rfl, Nat.le_of_ble_eq_true rfl⟩) (va_recv hK1 hL.1 (ci := 10) (q0 := 0) rfl rfl) hK1 hA hZ (cz_ok _) hL.1 hL.dc hL.2.2.2.2.2.2 rfl hl.1 rfl (Nat.le_of_ble_eq_true rfl) dL_law_501 ⟨hcc, hss⟩ (fun H locs hPn hkk hS => ?_)
  have hL : LI (dC, dI) (dC, dI, ad1, ca1, tS) (dC, dI, ad2, ca2, t2) qo cJ (fun q : Nat => s.heap.size ≤ q) s (cPageBoard_stopAt st (xs (4 * k + 1))).1 mt ov H locs := hL.cls hPn hkk hS
  refine lv_aload_n hx hb dL_law_504 rfl (lv_at hl 2 rfl) ?_
  refine lv_aload_n hx hb dL_law_505 rfl (lv_at hl 0 rfl) ?_
  refine lv_iload hx hb dL_law_506 (lv_at hl 4 rfl) ?_
  refine lv_iconst (v := (1 : Int32)) hx hb dL_law_508 (by decide) ?_
  refine lv_iadd hx hb dL_law_509 ?_
  refine va_sld hx hb hX hbl hbA hL.2.2.2.2.2.2 hix1 dL_law_510 ?_
  rw [hcl1]
  refine cy_Vi (As := [.int (xs (4 * k + 1))]) (rest := [.int (cPageBoard_stopAt st (xs (4 * k + 1))).2]) ⟨hx, hb, hml, hown, hts⟩ (c_m_stopAt l (dC, dI, ad2, ca2, t2) mt (xs (4 * k + 1))) (cwV 1 hts (gT_V (fun w h => wAX_in (wAll_in h)) (wLw_in (List.mem_of_getElem? (i := 37) rfl)) (wAX_in (wAll_in mw954)) (wAX_in (wAll_in mw955)) (wAX_in (wAll_in mw3)) (wAX_in (wAll_in mw956))) rfl rfl rfl yd_yX11_stopAt ⟨Nat.le_of_ble_eq_true rfl, Nat.le_of_ble_eq_true rfl⟩) (va_recv hK2 hL.2.1 (ci := 11) (q0 := 0) rfl rfl) hK2 hA trivial (mz_ok _) hL.2.1 hL.dm hL.2.2.2.2.2.2 rfl hl.1 rfl (Nat.le_of_ble_eq_true rfl) dL_law_511 ⟨hcc, hss⟩ (fun H locs hPn hkk hS => ?_)
  have hL : LI (dC, dI) (dC, dI, ad1, ca1, tS) (dC, dI, ad2, ca2, t2) qo cJ (fun q : Nat => s.heap.size ≤ q) s (cPageBoard_stopAt st (xs (4 * k + 1))).1 (m_stopAt mt (xs (4 * k + 1))).1 ov H locs := hL.mdl hPn hkk hS
  refine lv_icmp_eq (tgt := 860) hx hb dL_law_514 (by decide) (fun _ => ?_) (fun c9 => absurd hE c9)
  obtain ⟨x5, ex5⟩ : ∃ y : Int32, y = x4 + 4 := ⟨_, rfl⟩
  refine lv_iinc (v := x5) (lv' := [(4, .int x5), (0, .ref b), (1, .ref (ad1 0)), (2, .ref (ad2 0)), (3, .ref qo)]) hx hb dL_law_860 hl (k := 4) rfl (by rw [ex5]; rfl) (by decide) rfl (fun ls hl => ?_)
  refine lv_goto (tgt := 23) hx hb dL_law_863 (by decide) ?_
  refine W.widen (k := 42 + (k + 1)) (n := S0n + 6 * (k + 1)) (by omega) (by omega) ?_
  exact ih (k + 1) x5 (cPageBoard_stopAt st (xs (4 * k + 1))).1 (m_stopAt mt (xs (4 * k + 1))).1 ov H locs ls (by omega) (by omega) (by rw [ex5, ex4]; exact nI_4 k) hR2 hL (lv_sub hl [1, 2, 3, 4, 0] rfl)
set_option maxHeartbeats 4000000 in
set_option maxRecDepth 100000 in
theorem law_case_register (Rel : Nat → CS → CS → Prop) (HS : SimAll Rel) {p : Program} {l : Launch} {e : Env} {s : State} {m : MethodId} {below : List Frame} {meth : Method} {c : Code} {dC : Nat → ClassId} {dI : Nat → Nat → Nat} {ad1 ad2 : Nat → Nat} {ca1 ca2 : Nat → ClassId} {tS t2 qo : Nat} {cJ : ClassId} {b L : Nat} {xs : Nat → Int32} (hLn : L ≤ 256) (hl0 : l.stackTraces = false) (C0 : lw_At p s m meth c b L xs) (hK1 : va_K (dC, dI) vwCl (cty (dC, dI, ad1, ca1, tS)) s) (hK2 : va_K (dC, dI) vwCl (mty (dC, dI, ad2, ca2, t2)) s) (hK3 : va_K (dC, dI) vwCl [(cJ, .long)] s) (hZ : cz (dC, dI, ad1, ca1, tS) (fun q : Nat => s.heap.size ≤ q) s s.heap) (hT_peek : tP "java/lang/IndexOutOfBoundsException" 95 "no such word of MEMORY" (fun q : Nat => s.heap.size ≤ q) s s.heap) (hT_stored : tP "java/lang/IndexOutOfBoundsException" 108 "no such word of a SECTOR" (fun q : Nat => s.heap.size ≤ q) s s.heap) (hT_step : tP "java/lang/IllegalArgumentException" 120 "not 1 .. 5000 STEPS" (fun q : Nat => s.heap.size ≤ q) s s.heap) (hT_run : tP "java/lang/IllegalArgumentException" 131 "not 1 .. 20000 TICKS" (fun q : Nat => s.heap.size ≤ q) s s.heap) (hT_register : tP "java/lang/IndexOutOfBoundsException" 138 "no such register" (fun q : Nat => s.heap.size ≤ q) s s.heap) (k : Nat) (x4 : Int32) (st mt : CS) (ov : Nat → Int64) (H : Heap) (locs : List Loc) (ls : Array Slot) (h4 : 4 * k + 4 ≤ L) (ex4 : x4 = nI (4 * k)) (hR : Rel k st mt) (hL : LI (dC, dI) (dC, dI, ad1, ca1, tS) (dC, dI, ad2, ca2, t2) qo cJ (fun q : Nat => s.heap.size ≤ q) s st mt ov H locs) (hl : lv_has ls 7 [(0, .ref b), (1, .ref (ad1 0)), (2, .ref (ad2 0)), (3, .ref qo), (4, .int x4)])
    (ih : ∀ (k2 : Nat) (x4 : Int32) (st mt : CS) (ov : Nat → Int64) (H : Heap) (locs : List Loc) (ls : Array Slot), k2 = k + 1 → 4 * k2 ≤ L → x4 = nI (4 * k2) → Rel k2 st mt → LI (dC, dI) (dC, dI, ad1, ca1, tS) (dC, dI, ad2, ca2, t2) qo cJ (fun q : Nat => s.heap.size ≤ q) s st mt ov H locs → lv_has ls 7 [(0, .ref b), (1, .ref (ad1 0)), (2, .ref (ad2 0)), (3, .ref qo), (4, .int x4)] → W p l e room_1 s m #[Value.ref b] below meth c H locs (42 + k2) (S0n + 6 * k2) (lw_Z below #[Value.ref b] s) (F0 m 23 ls [])) : W p l e room_1 s m #[Value.ref b] below meth c H locs (42 + k) (S0n + 6 * k) (lw_Z below #[Value.ref b] s) (F0 m 519 ls []) := by
  obtain ⟨hx, hb, hr, hml, hown, hts, hX, hbl, hlocks, hgv⟩ := C0
  have hA : ∀ q : Nat, s.heap.size ≤ q → (fun q : Nat => s.heap.size ≤ q) q := fun _ h => h
  have hbA : ¬ (fun q : Nat => s.heap.size ≤ q) b := Nat.not_le.mpr hbl
  have hk64 : k < 64 := by omega
  have rc0 : room_1.cells = 175 := rfl
  have rs0 : room_1.slots = 79122 := rfl
  have s00 : S0n = 78068 := rfl
  have hcc : 42 + k ≤ room_1.cells := by omega
  have hss : S0n + 6 * k ≤ room_1.slots := by omega
  have hix1 : vp_in (x4 + (1 : Int32)) L := by rw [ex4]; exact ixL k 1 (by omega) (by omega) (by omega)
  have hcl1 : xs (x4 + (1 : Int32)).toNatClampNeg = xs (4 * k + 1) := by rw [ex4]; exact congrArg xs (clL k 1 (by omega) (by omega))
  have hix2 : vp_in (x4 + (2 : Int32)) L := by rw [ex4]; exact ixL k 2 (by omega) (by omega) (by omega)
  have hcl2 : xs (x4 + (2 : Int32)).toNatClampNeg = xs (4 * k + 2) := by rw [ex4]; exact congrArg xs (clL k 2 (by omega) (by omega))
  have hix3 : vp_in (x4 + (3 : Int32)) L := by rw [ex4]; exact ixL k 3 (by omega) (by omega) (by omega)
  have hcl3 : xs (x4 + (3 : Int32)).toNatClampNeg = xs (4 * k + 3) := by rw [ex4]; exact congrArg xs (clL k 3 (by omega) (by omega))
  obtain ⟨hO, hTh⟩ := HS.2.2.2.2.2.2.2.2.2.1 k st mt (xs (4 * k + 1)) (xs (4 * k + 2)) hk64 hR
  refine lv_aload_n hx hb dL_law_519 rfl (lv_at hl 1 rfl) ?_
  refine lv_aload_n hx hb dL_law_520 rfl (lv_at hl 0 rfl) ?_
  refine lv_iload hx hb dL_law_521 (lv_at hl 4 rfl) ?_
  refine lv_iconst (v := (1 : Int32)) hx hb dL_law_523 (by decide) ?_
  refine lv_iadd hx hb dL_law_524 ?_
  refine va_sld hx hb hX hbl hbA hL.2.2.2.2.2.2 hix1 dL_law_525 ?_
  rw [hcl1]
  refine lv_aload_n hx hb dL_law_526 rfl (lv_at hl 0 rfl) ?_
  refine lv_iload hx hb dL_law_527 (lv_at hl 4 rfl) ?_
  refine lv_iconst (v := (2 : Int32)) hx hb dL_law_529 (by decide) ?_
  refine lv_iadd hx hb dL_law_530 ?_
  refine va_sld hx hb hX hbl hbA hL.2.2.2.2.2.2 hix2 dL_law_531 ?_
  rw [hcl2]
  refine lv_aload_n hx hb dL_law_532 rfl (lv_at hl 3 rfl) ?_
  obtain ⟨hFh, hpre⟩ := hPre hL.1 hL.2.2.1 hK1 hK3 (dleft (hL.d3 (b := mt))) hA hZ hT_register hL.2.2.2.2.2.2
  refine va_calli (vx_runSW (As := [.ref (ad1 0), .int (xs (4 * k + 1)), .int (xs (4 * k + 2)), .ref qo]) (rest := []) ⟨hx, hb, hml, hown, hts⟩ (c_L_register l hl0 (dC, dI, ad1, ca1, tS) qo cJ st ov (xs (4 * k + 1)) (xs (4 * k + 2)) H.size) (vx_cwSW 4 hts (gT_S (fun w h => h) (wLw_in (List.mem_of_getElem? (i := 38) rfl)) (wLw_in (List.mem_of_getElem? (i := 39) rfl)) (wLw_in (List.mem_of_getElem? (i := 10) rfl)) (wLw_in (List.mem_of_getElem? (i := 40) rfl))) rfl rfl rfl ydL_register ⟨Nat.le_of_ble_eq_true rfl, Nat.le_of_ble_eq_true rfl⟩) ⟨hBlind _ _, fun U hU hW => ⟨rfl, hpre U hU hW⟩⟩ rfl rfl hl.1 rfl (lv_room (Nat.le_of_ble_eq_true rfl)) dL_law_533 ⟨by omega, by omega⟩) hL.2.2.2.2.2.2 (fun q _ h => hFh q h) hFh (fun r_ u t H1 locs ht hvm hw hB hz1 hk1 hS => ?_)
  obtain ⟨hB1, hB2⟩ := hB
  rw [ht] at hB1 hB2
  have hBm := keepO hL.d3 hL.2.1 hk1
  have hL : LI (dC, dI) (dC, dI, ad1, ca1, tS) (dC, dI, ad2, ca2, t2) qo cJ (fun q : Nat => s.heap.size ≤ q) s u.1 mt u.2 H1 locs := ⟨hB1, hBm, hB2, hL.2.2.2.1, hL.2.2.2.2.1, hL.2.2.2.2.2.1, hS⟩
  generalize H1 = H at hL ⊢
  have hcc : 42 + k + 1 ≤ room_1.cells := by omega
  have hss : S0n + 6 * k + 6 ≤ room_1.slots := by omega
  rcases hw with ⟨hx1, rfl, rfl⟩ | ⟨Z, hx1, rfl, rfl⟩
  · obtain ⟨-, hth, hR2⟩ := hTh.resolve_right (fun ⟨Z, q, _⟩ => by rw [hx1] at q; cases q)
    have hL : LI (dC, dI) (dC, dI, ad1, ca1, tS) (dC, dI, ad2, ca2, t2) qo cJ (fun q : Nat => s.heap.size ≤ q) s st mt ov H locs := hL
    refine lv_istore (lv' := [(5, .int (1 : Int32)), (0, .ref b), (1, .ref (ad1 0)), (2, .ref (ad2 0)), (3, .ref qo), (4, .int x4)]) hx hb dL_law_536 hl (by decide) rfl (fun ls hl => ?_)
    refine lv_aload_n hx hb dL_law_538 rfl (lv_at hl 3 rfl) ?_
    refine lv_aload_n hx hb dL_law_539 rfl (lv_at hl 1 rfl) ?_
    refine lv_iload hx hb dL_law_540 (lv_at hl 5 rfl) ?_
    refine lv_iconst (v := (1 : Int32)) hx hb dL_law_542 (by decide) ?_
    refine lv_iadd hx hb dL_law_543 ?_
    refine va_sld hx hb hX hbl hbA hL.2.2.2.2.2.2 hix1 dL_law_544 ?_
    rw [hcl1]
    refine lv_aload_n hx hb dL_law_545 rfl (lv_at hl 1 rfl) ?_
    refine lv_iload hx hb dL_law_546 (lv_at hl 5 rfl) ?_
    refine lv_iconst (v := (2 : Int32)) hx hb dL_law_548 (by decide) ?_
    refine lv_iadd hx hb dL_law_549 ?_
    refine va_sld hx hb hX hbl hbA hL.2.2.2.2.2.2 hix2 dL_law_550 ?_
    rw [hcl2]
    refine cy_Vi (As := [.int (xs (4 * k + 1)), .int (xs (4 * k + 2))]) (rest := []) ⟨hx, hb, hml, hown, hts⟩ (c_m_register l (dC, dI, ad2, ca2, t2) mt (xs (4 * k + 1)) (xs (4 * k + 2)) hO) (cwV 2 hts (gT_V (fun w h => wAX_in (wAll_in h)) (wLw_in (List.mem_of_getElem? (i := 42) rfl)) (wAX_in (wAll_in mw965)) (wAX_in (wAll_in mw966)) (wAX_in (wAll_in mw3)) (wAX_in (wAll_in mw967))) rfl rfl rfl yd_yX11_register ⟨Nat.le_of_ble_eq_true rfl, Nat.le_of_ble_eq_true rfl⟩) (va_recv hK2 hL.2.1 (ci := 11) (q0 := 0) rfl rfl) hK2 hA trivial (mz_ok _) hL.2.1 hL.dm hL.2.2.2.2.2.2 rfl hl.1 rfl (Nat.le_of_ble_eq_true rfl) dL_law_551 ⟨hcc, hss⟩ (fun H locs hPn hkk hS => ?_)
    have hL : LI (dC, dI) (dC, dI, ad1, ca1, tS) (dC, dI, ad2, ca2, t2) qo cJ (fun q : Nat => s.heap.size ≤ q) s st (m_register mt (xs (4 * k + 1)) (xs (4 * k + 2))).1 ov H locs := hL.mdl hPn hkk hS
    refine lv_istore (lv' := [(6, .int (m_register mt (xs (4 * k + 1)) (xs (4 * k + 2))).2), (5, .int (1 : Int32)), (0, .ref b), (1, .ref (ad1 0)), (2, .ref (ad2 0)), (3, .ref qo), (4, .int x4)]) hx hb dL_law_554 hl (by decide) rfl (fun ls hl => ?_)
    refine lv_aload_n hx hb dL_law_556 rfl (lv_at hl 4 rfl) ?_
    refine cy_Vi (As := []) (rest := []) ⟨hx, hb, hml, hown, hts⟩ (c_m_thrown l (dC, dI, ad2, ca2, t2) (m_register mt (xs (4 * k + 1)) (xs (4 * k + 2))).1 ) (cwV 0 hts (gT_V (fun w h => wAX_in (wAll_in h)) (wLw_in (List.mem_of_getElem? (i := 15) rfl)) (wAX_in (wAll_in mw253)) (wAX_in (wAll_in mw254)) (wAX_in (wAll_in mw3)) (wAX_in (wAll_in mw255))) rfl rfl rfl yd_yX11_thrown ⟨Nat.le_of_ble_eq_true rfl, Nat.le_of_ble_eq_true rfl⟩) (va_recv hK2 hL.2.1 (ci := 11) (q0 := 0) rfl rfl) hK2 hA trivial (mz_ok _) hL.2.1 hL.dm hL.2.2.2.2.2.2 rfl hl.1 rfl (Nat.le_of_ble_eq_true rfl) dL_law_557 ⟨hcc, hss⟩ (fun H locs hPn hkk hS => ?_)
    have hL : LI (dC, dI) (dC, dI, ad1, ca1, tS) (dC, dI, ad2, ca2, t2) qo cJ (fun q : Nat => s.heap.size ≤ q) s st (m_register mt (xs (4 * k + 1)) (xs (4 * k + 2))).1 ov H locs := hL.mdl hPn hkk hS
    refine lv_iload hx hb dL_law_560 (lv_at hl 1 rfl) ?_
    refine lv_icmp_eq (tgt := 567) hx hb dL_law_562 (by decide) (fun _ => ?_) (fun c9 => absurd hth c9)
    refine lv_iload hx hb dL_law_567 (lv_at hl 1 rfl) ?_
    refine lv_if_ne (tgt := 584) hx hb dL_law_569 (by decide) (fun _ => ?_) (fun c9 => absurd c9 (by decide))
    refine lv_goto (tgt := 860) hx hb dL_law_584 (by decide) ?_
    obtain ⟨x5, ex5⟩ : ∃ y : Int32, y = x4 + 4 := ⟨_, rfl⟩
    refine lv_iinc (v := x5) (lv' := [(4, .int x5), (6, .int (m_register mt (xs (4 * k + 1)) (xs (4 * k + 2))).2), (5, .int (1 : Int32)), (0, .ref b), (1, .ref (ad1 0)), (2, .ref (ad2 0)), (3, .ref qo)]) hx hb dL_law_860 hl (k := 6) rfl (by rw [ex5]; rfl) (by decide) rfl (fun ls hl => ?_)
    refine lv_goto (tgt := 23) hx hb dL_law_863 (by decide) ?_
    refine W.widen (k := 42 + (k + 1)) (n := S0n + 6 * (k + 1)) (by omega) (by omega) ?_
    exact ih (k + 1) x5 st (m_register mt (xs (4 * k + 1)) (xs (4 * k + 2))).1 ov H locs ls (by omega) (by omega) (by rw [ex5, ex4]; exact nI_4 k) hR2 hL (lv_sub hl [3, 4, 5, 6, 0] rfl)
  · obtain ⟨Z2, q1, hth, hE, hR2⟩ := hTh.resolve_left (fun q => by rw [q.1] at hx1; cases hx1)
    obtain rfl : Z = Z2 := Option.some.inj (hx1.symm.trans q1)
    have hL : LI (dC, dI) (dC, dI, ad1, ca1, tS) (dC, dI, ad2, ca2, t2) qo cJ (fun q : Nat => s.heap.size ≤ q) s Z.1 mt (vp_updL ov (0 : Int32).toNatClampNeg Z.2.toInt64) H locs := hL
    refine lv_istore (lv' := [(5, .int (0 : Int32)), (0, .ref b), (1, .ref (ad1 0)), (2, .ref (ad2 0)), (3, .ref qo), (4, .int x4)]) hx hb dL_law_536 hl (by decide) rfl (fun ls hl => ?_)
    refine lv_aload_n hx hb dL_law_538 rfl (lv_at hl 3 rfl) ?_
    refine lv_aload_n hx hb dL_law_539 rfl (lv_at hl 1 rfl) ?_
    refine lv_iload hx hb dL_law_540 (lv_at hl 5 rfl) ?_
    refine lv_iconst (v := (1 : Int32)) hx hb dL_law_542 (by decide) ?_
    refine lv_iadd hx hb dL_law_543 ?_
    refine va_sld hx hb hX hbl hbA hL.2.2.2.2.2.2 hix1 dL_law_544 ?_
    rw [hcl1]
    refine lv_aload_n hx hb dL_law_545 rfl (lv_at hl 1 rfl) ?_
    refine lv_iload hx hb dL_law_546 (lv_at hl 5 rfl) ?_
    refine lv_iconst (v := (2 : Int32)) hx hb dL_law_548 (by decide) ?_
    refine lv_iadd hx hb dL_law_549 ?_
    refine va_sld hx hb hX hbl hbA hL.2.2.2.2.2.2 hix2 dL_law_550 ?_
    rw [hcl2]
    refine cy_Vi (As := [.int (xs (4 * k + 1)), .int (xs (4 * k + 2))]) (rest := []) ⟨hx, hb, hml, hown, hts⟩ (c_m_register l (dC, dI, ad2, ca2, t2) mt (xs (4 * k + 1)) (xs (4 * k + 2)) hO) (cwV 2 hts (gT_V (fun w h => wAX_in (wAll_in h)) (wLw_in (List.mem_of_getElem? (i := 42) rfl)) (wAX_in (wAll_in mw965)) (wAX_in (wAll_in mw966)) (wAX_in (wAll_in mw3)) (wAX_in (wAll_in mw967))) rfl rfl rfl yd_yX11_register ⟨Nat.le_of_ble_eq_true rfl, Nat.le_of_ble_eq_true rfl⟩) (va_recv hK2 hL.2.1 (ci := 11) (q0 := 0) rfl rfl) hK2 hA trivial (mz_ok _) hL.2.1 hL.dm hL.2.2.2.2.2.2 rfl hl.1 rfl (Nat.le_of_ble_eq_true rfl) dL_law_551 ⟨hcc, hss⟩ (fun H locs hPn hkk hS => ?_)
    have hL : LI (dC, dI) (dC, dI, ad1, ca1, tS) (dC, dI, ad2, ca2, t2) qo cJ (fun q : Nat => s.heap.size ≤ q) s Z.1 (m_register mt (xs (4 * k + 1)) (xs (4 * k + 2))).1 (vp_updL ov (0 : Int32).toNatClampNeg Z.2.toInt64) H locs := hL.mdl hPn hkk hS
    refine lv_istore (lv' := [(6, .int (m_register mt (xs (4 * k + 1)) (xs (4 * k + 2))).2), (5, .int (0 : Int32)), (0, .ref b), (1, .ref (ad1 0)), (2, .ref (ad2 0)), (3, .ref qo), (4, .int x4)]) hx hb dL_law_554 hl (by decide) rfl (fun ls hl => ?_)
    refine lv_aload_n hx hb dL_law_556 rfl (lv_at hl 4 rfl) ?_
    refine cy_Vi (As := []) (rest := []) ⟨hx, hb, hml, hown, hts⟩ (c_m_thrown l (dC, dI, ad2, ca2, t2) (m_register mt (xs (4 * k + 1)) (xs (4 * k + 2))).1 ) (cwV 0 hts (gT_V (fun w h => wAX_in (wAll_in h)) (wLw_in (List.mem_of_getElem? (i := 15) rfl)) (wAX_in (wAll_in mw253)) (wAX_in (wAll_in mw254)) (wAX_in (wAll_in mw3)) (wAX_in (wAll_in mw255))) rfl rfl rfl yd_yX11_thrown ⟨Nat.le_of_ble_eq_true rfl, Nat.le_of_ble_eq_true rfl⟩) (va_recv hK2 hL.2.1 (ci := 11) (q0 := 0) rfl rfl) hK2 hA trivial (mz_ok _) hL.2.1 hL.dm hL.2.2.2.2.2.2 rfl hl.1 rfl (Nat.le_of_ble_eq_true rfl) dL_law_557 ⟨hcc, hss⟩ (fun H locs hPn hkk hS => ?_)
    have hL : LI (dC, dI) (dC, dI, ad1, ca1, tS) (dC, dI, ad2, ca2, t2) qo cJ (fun q : Nat => s.heap.size ≤ q) s Z.1 (m_register mt (xs (4 * k + 1)) (xs (4 * k + 2))).1 (vp_updL ov (0 : Int32).toNatClampNeg Z.2.toInt64) H locs := hL.mdl hPn hkk hS
    refine lv_iload hx hb dL_law_560 (lv_at hl 1 rfl) ?_
    refine lv_icmp_eq (tgt := 567) hx hb dL_law_562 (by decide) (fun _ => ?_) (fun c9 => absurd hth c9)
    refine lv_iload hx hb dL_law_567 (lv_at hl 1 rfl) ?_
    refine lv_if_ne (tgt := 584) hx hb dL_law_569 (by decide) (fun c9 => absurd rfl c9) (fun _ => ?_)
    refine lv_aload_n hx hb dL_law_572 rfl (lv_at hl 5 rfl) ?_
    refine lv_iconst (v := (0 : Int32)) hx hb dL_law_573 (by decide) ?_
    refine va_lald (f := (vp_updL ov (0 : Int32).toNatClampNeg Z.2.toInt64)) hx hb hK3 hL.2.2.1 0 0 rfl rfl (by unfold vp_in; decide) dL_law_574 ?_
    refine lv_iload hx hb dL_law_575 (lv_at hl 0 rfl) ?_
    refine lv_i2l (v := (m_register mt (xs (4 * k + 1)) (xs (4 * k + 2))).2.toInt64) hx hb dL_law_577 rfl ?_
    refine W.lcmp hx hb dL_law_578 ?_
    refine lv_if_eq (tgt := 584) hx hb dL_law_579 (by decide) (fun _ => ?_) (fun c9 => absurd (show lg_cmp (vp_updL ov (0 : Int32).toNatClampNeg Z.2.toInt64 (0 : Int32).toNatClampNeg) (m_register mt (xs (4 * k + 1)) (xs (4 * k + 2))).2.toInt64 = 0 by rw [pk_uLs, hE]; exact lgc _) c9)
    refine lv_goto (tgt := 860) hx hb dL_law_584 (by decide) ?_
    obtain ⟨x5, ex5⟩ : ∃ y : Int32, y = x4 + 4 := ⟨_, rfl⟩
    refine lv_iinc (v := x5) (lv' := [(4, .int x5), (6, .int (m_register mt (xs (4 * k + 1)) (xs (4 * k + 2))).2), (5, .int (0 : Int32)), (0, .ref b), (1, .ref (ad1 0)), (2, .ref (ad2 0)), (3, .ref qo)]) hx hb dL_law_860 hl (k := 6) rfl (by rw [ex5]; rfl) (by decide) rfl (fun ls hl => ?_)
    refine lv_goto (tgt := 23) hx hb dL_law_863 (by decide) ?_
    refine W.widen (k := 42 + (k + 1)) (n := S0n + 6 * (k + 1)) (by omega) (by omega) ?_
    exact ih (k + 1) x5 Z.1 (m_register mt (xs (4 * k + 1)) (xs (4 * k + 2))).1 (vp_updL ov (0 : Int32).toNatClampNeg Z.2.toInt64) H locs ls (by omega) (by omega) (by rw [ex5, ex4]; exact nI_4 k) hR2 hL (lv_sub hl [3, 4, 5, 6, 0] rfl)
set_option maxHeartbeats 4000000 in
set_option maxRecDepth 100000 in
theorem law_case_put (Rel : Nat → CS → CS → Prop) (HS : SimAll Rel) {p : Program} {l : Launch} {e : Env} {s : State} {m : MethodId} {below : List Frame} {meth : Method} {c : Code} {dC : Nat → ClassId} {dI : Nat → Nat → Nat} {ad1 ad2 : Nat → Nat} {ca1 ca2 : Nat → ClassId} {tS t2 qo : Nat} {cJ : ClassId} {b L : Nat} {xs : Nat → Int32} (hLn : L ≤ 256) (hl0 : l.stackTraces = false) (C0 : lw_At p s m meth c b L xs) (hK1 : va_K (dC, dI) vwCl (cty (dC, dI, ad1, ca1, tS)) s) (hK2 : va_K (dC, dI) vwCl (mty (dC, dI, ad2, ca2, t2)) s) (hK3 : va_K (dC, dI) vwCl [(cJ, .long)] s) (hZ : cz (dC, dI, ad1, ca1, tS) (fun q : Nat => s.heap.size ≤ q) s s.heap) (hT_peek : tP "java/lang/IndexOutOfBoundsException" 95 "no such word of MEMORY" (fun q : Nat => s.heap.size ≤ q) s s.heap) (hT_stored : tP "java/lang/IndexOutOfBoundsException" 108 "no such word of a SECTOR" (fun q : Nat => s.heap.size ≤ q) s s.heap) (hT_step : tP "java/lang/IllegalArgumentException" 120 "not 1 .. 5000 STEPS" (fun q : Nat => s.heap.size ≤ q) s s.heap) (hT_run : tP "java/lang/IllegalArgumentException" 131 "not 1 .. 20000 TICKS" (fun q : Nat => s.heap.size ≤ q) s s.heap) (hT_register : tP "java/lang/IndexOutOfBoundsException" 138 "no such register" (fun q : Nat => s.heap.size ≤ q) s s.heap) (k : Nat) (x4 : Int32) (st mt : CS) (ov : Nat → Int64) (H : Heap) (locs : List Loc) (ls : Array Slot) (h4 : 4 * k + 4 ≤ L) (ex4 : x4 = nI (4 * k)) (hR : Rel k st mt) (hL : LI (dC, dI) (dC, dI, ad1, ca1, tS) (dC, dI, ad2, ca2, t2) qo cJ (fun q : Nat => s.heap.size ≤ q) s st mt ov H locs) (hl : lv_has ls 7 [(0, .ref b), (1, .ref (ad1 0)), (2, .ref (ad2 0)), (3, .ref qo), (4, .int x4)])
    (ih : ∀ (k2 : Nat) (x4 : Int32) (st mt : CS) (ov : Nat → Int64) (H : Heap) (locs : List Loc) (ls : Array Slot), k2 = k + 1 → 4 * k2 ≤ L → x4 = nI (4 * k2) → Rel k2 st mt → LI (dC, dI) (dC, dI, ad1, ca1, tS) (dC, dI, ad2, ca2, t2) qo cJ (fun q : Nat => s.heap.size ≤ q) s st mt ov H locs → lv_has ls 7 [(0, .ref b), (1, .ref (ad1 0)), (2, .ref (ad2 0)), (3, .ref qo), (4, .int x4)] → W p l e room_1 s m #[Value.ref b] below meth c H locs (42 + k2) (S0n + 6 * k2) (lw_Z below #[Value.ref b] s) (F0 m 23 ls [])) : W p l e room_1 s m #[Value.ref b] below meth c H locs (42 + k) (S0n + 6 * k) (lw_Z below #[Value.ref b] s) (F0 m 587 ls []) := by
  obtain ⟨hx, hb, hr, hml, hown, hts, hX, hbl, hlocks, hgv⟩ := C0
  have hA : ∀ q : Nat, s.heap.size ≤ q → (fun q : Nat => s.heap.size ≤ q) q := fun _ h => h
  have hbA : ¬ (fun q : Nat => s.heap.size ≤ q) b := Nat.not_le.mpr hbl
  have hk64 : k < 64 := by omega
  have rc0 : room_1.cells = 175 := rfl
  have rs0 : room_1.slots = 79122 := rfl
  have s00 : S0n = 78068 := rfl
  have hcc : 42 + k ≤ room_1.cells := by omega
  have hss : S0n + 6 * k ≤ room_1.slots := by omega
  have hix1 : vp_in (x4 + (1 : Int32)) L := by rw [ex4]; exact ixL k 1 (by omega) (by omega) (by omega)
  have hcl1 : xs (x4 + (1 : Int32)).toNatClampNeg = xs (4 * k + 1) := by rw [ex4]; exact congrArg xs (clL k 1 (by omega) (by omega))
  have hix2 : vp_in (x4 + (2 : Int32)) L := by rw [ex4]; exact ixL k 2 (by omega) (by omega) (by omega)
  have hcl2 : xs (x4 + (2 : Int32)).toNatClampNeg = xs (4 * k + 2) := by rw [ex4]; exact congrArg xs (clL k 2 (by omega) (by omega))
  have hix3 : vp_in (x4 + (3 : Int32)) L := by rw [ex4]; exact ixL k 3 (by omega) (by omega) (by omega)
  have hcl3 : xs (x4 + (3 : Int32)).toNatClampNeg = xs (4 * k + 3) := by rw [ex4]; exact congrArg xs (clL k 3 (by omega) (by omega))
  obtain ⟨hO, hE, hR2⟩ := HS.2.2.2.2.2.2.2.2.2.2.1 k st mt (xs (4 * k + 1)) (xs (4 * k + 2)) (xs (4 * k + 3)) hk64 hR
  refine lv_aload_n hx hb dL_law_587 rfl (lv_at hl 1 rfl) ?_
  refine lv_aload_n hx hb dL_law_588 rfl (lv_at hl 0 rfl) ?_
  refine lv_iload hx hb dL_law_589 (lv_at hl 4 rfl) ?_
  refine lv_iconst (v := (1 : Int32)) hx hb dL_law_591 (by decide) ?_
  refine lv_iadd hx hb dL_law_592 ?_
  refine va_sld hx hb hX hbl hbA hL.2.2.2.2.2.2 hix1 dL_law_593 ?_
  rw [hcl1]
  refine lv_aload_n hx hb dL_law_594 rfl (lv_at hl 0 rfl) ?_
  refine lv_iload hx hb dL_law_595 (lv_at hl 4 rfl) ?_
  refine lv_iconst (v := (2 : Int32)) hx hb dL_law_597 (by decide) ?_
  refine lv_iadd hx hb dL_law_598 ?_
  refine va_sld hx hb hX hbl hbA hL.2.2.2.2.2.2 hix2 dL_law_599 ?_
  rw [hcl2]
  refine lv_aload_n hx hb dL_law_600 rfl (lv_at hl 0 rfl) ?_
  refine lv_iload hx hb dL_law_601 (lv_at hl 4 rfl) ?_
  refine lv_iconst (v := (3 : Int32)) hx hb dL_law_603 (by decide) ?_
  refine lv_iadd hx hb dL_law_604 ?_
  refine va_sld hx hb hX hbl hbA hL.2.2.2.2.2.2 hix3 dL_law_605 ?_
  rw [hcl3]
  refine cy_Vi (As := [.int (xs (4 * k + 1)), .int (xs (4 * k + 2)), .int (xs (4 * k + 3))]) (rest := []) ⟨hx, hb, hml, hown, hts⟩ (c_cPageBoard_put l (dC, dI, ad1, ca1, tS) st (xs (4 * k + 1)) (xs (4 * k + 2)) (xs (4 * k + 3))) (cwV 3 hts (gT_V (fun w h => wAX_in (wAll_in h)) (wLw_in (List.mem_of_getElem? (i := 43) rfl)) (wAX_in (wAll_in mw971)) (wAX_in (wAll_in mw972)) (wAX_in (wAll_in mw1)) (wAX_in (wAll_in mw973))) rfl rfl rfl yd_yX10_put ⟨Nat.le_of_ble_eq_true rfl, Nat.le_of_ble_eq_true rfl⟩) (va_recv hK1 hL.1 (ci := 10) (q0 := 0) rfl rfl) hK1 hA hZ (cz_ok _) hL.1 hL.dc hL.2.2.2.2.2.2 rfl hl.1 rfl (Nat.le_of_ble_eq_true rfl) dL_law_606 ⟨hcc, hss⟩ (fun H locs hPn hkk hS => ?_)
  have hL : LI (dC, dI) (dC, dI, ad1, ca1, tS) (dC, dI, ad2, ca2, t2) qo cJ (fun q : Nat => s.heap.size ≤ q) s (cPageBoard_put st (xs (4 * k + 1)) (xs (4 * k + 2)) (xs (4 * k + 3))).1 mt ov H locs := hL.cls hPn hkk hS
  refine lv_aload_n hx hb dL_law_609 rfl (lv_at hl 2 rfl) ?_
  refine lv_aload_n hx hb dL_law_610 rfl (lv_at hl 0 rfl) ?_
  refine lv_iload hx hb dL_law_611 (lv_at hl 4 rfl) ?_
  refine lv_iconst (v := (1 : Int32)) hx hb dL_law_613 (by decide) ?_
  refine lv_iadd hx hb dL_law_614 ?_
  refine va_sld hx hb hX hbl hbA hL.2.2.2.2.2.2 hix1 dL_law_615 ?_
  rw [hcl1]
  refine lv_aload_n hx hb dL_law_616 rfl (lv_at hl 0 rfl) ?_
  refine lv_iload hx hb dL_law_617 (lv_at hl 4 rfl) ?_
  refine lv_iconst (v := (2 : Int32)) hx hb dL_law_619 (by decide) ?_
  refine lv_iadd hx hb dL_law_620 ?_
  refine va_sld hx hb hX hbl hbA hL.2.2.2.2.2.2 hix2 dL_law_621 ?_
  rw [hcl2]
  refine lv_aload_n hx hb dL_law_622 rfl (lv_at hl 0 rfl) ?_
  refine lv_iload hx hb dL_law_623 (lv_at hl 4 rfl) ?_
  refine lv_iconst (v := (3 : Int32)) hx hb dL_law_625 (by decide) ?_
  refine lv_iadd hx hb dL_law_626 ?_
  refine va_sld hx hb hX hbl hbA hL.2.2.2.2.2.2 hix3 dL_law_627 ?_
  rw [hcl3]
  refine cy_Vi (As := [.int (xs (4 * k + 1)), .int (xs (4 * k + 2)), .int (xs (4 * k + 3))]) (rest := [.int (cPageBoard_put st (xs (4 * k + 1)) (xs (4 * k + 2)) (xs (4 * k + 3))).2]) ⟨hx, hb, hml, hown, hts⟩ (c_m_put l (dC, dI, ad2, ca2, t2) mt (xs (4 * k + 1)) (xs (4 * k + 2)) (xs (4 * k + 3)) hO) (cwV 3 hts (gT_V (fun w h => wAX_in (wAll_in h)) (wLw_in (List.mem_of_getElem? (i := 44) rfl)) (wAX_in (wAll_in mw975)) (wAX_in (wAll_in mw976)) (wAX_in (wAll_in mw3)) (wAX_in (wAll_in mw977))) rfl rfl rfl yd_yX11_put ⟨Nat.le_of_ble_eq_true rfl, Nat.le_of_ble_eq_true rfl⟩) (va_recv hK2 hL.2.1 (ci := 11) (q0 := 0) rfl rfl) hK2 hA trivial (mz_ok _) hL.2.1 hL.dm hL.2.2.2.2.2.2 rfl hl.1 rfl (Nat.le_of_ble_eq_true rfl) dL_law_628 ⟨hcc, hss⟩ (fun H locs hPn hkk hS => ?_)
  have hL : LI (dC, dI) (dC, dI, ad1, ca1, tS) (dC, dI, ad2, ca2, t2) qo cJ (fun q : Nat => s.heap.size ≤ q) s (cPageBoard_put st (xs (4 * k + 1)) (xs (4 * k + 2)) (xs (4 * k + 3))).1 (m_put mt (xs (4 * k + 1)) (xs (4 * k + 2)) (xs (4 * k + 3))).1 ov H locs := hL.mdl hPn hkk hS
  refine lv_icmp_eq (tgt := 860) hx hb dL_law_631 (by decide) (fun _ => ?_) (fun c9 => absurd hE c9)
  obtain ⟨x5, ex5⟩ : ∃ y : Int32, y = x4 + 4 := ⟨_, rfl⟩
  refine lv_iinc (v := x5) (lv' := [(4, .int x5), (0, .ref b), (1, .ref (ad1 0)), (2, .ref (ad2 0)), (3, .ref qo)]) hx hb dL_law_860 hl (k := 4) rfl (by rw [ex5]; rfl) (by decide) rfl (fun ls hl => ?_)
  refine lv_goto (tgt := 23) hx hb dL_law_863 (by decide) ?_
  refine W.widen (k := 42 + (k + 1)) (n := S0n + 6 * (k + 1)) (by omega) (by omega) ?_
  exact ih (k + 1) x5 (cPageBoard_put st (xs (4 * k + 1)) (xs (4 * k + 2)) (xs (4 * k + 3))).1 (m_put mt (xs (4 * k + 1)) (xs (4 * k + 2)) (xs (4 * k + 3))).1 ov H locs ls (by omega) (by omega) (by rw [ex5, ex4]; exact nI_4 k) hR2 hL (lv_sub hl [1, 2, 3, 4, 0] rfl)
set_option maxHeartbeats 4000000 in
set_option maxRecDepth 100000 in
theorem law_case_entry (Rel : Nat → CS → CS → Prop) (HS : SimAll Rel) {p : Program} {l : Launch} {e : Env} {s : State} {m : MethodId} {below : List Frame} {meth : Method} {c : Code} {dC : Nat → ClassId} {dI : Nat → Nat → Nat} {ad1 ad2 : Nat → Nat} {ca1 ca2 : Nat → ClassId} {tS t2 qo : Nat} {cJ : ClassId} {b L : Nat} {xs : Nat → Int32} (hLn : L ≤ 256) (hl0 : l.stackTraces = false) (C0 : lw_At p s m meth c b L xs) (hK1 : va_K (dC, dI) vwCl (cty (dC, dI, ad1, ca1, tS)) s) (hK2 : va_K (dC, dI) vwCl (mty (dC, dI, ad2, ca2, t2)) s) (hK3 : va_K (dC, dI) vwCl [(cJ, .long)] s) (hZ : cz (dC, dI, ad1, ca1, tS) (fun q : Nat => s.heap.size ≤ q) s s.heap) (hT_peek : tP "java/lang/IndexOutOfBoundsException" 95 "no such word of MEMORY" (fun q : Nat => s.heap.size ≤ q) s s.heap) (hT_stored : tP "java/lang/IndexOutOfBoundsException" 108 "no such word of a SECTOR" (fun q : Nat => s.heap.size ≤ q) s s.heap) (hT_step : tP "java/lang/IllegalArgumentException" 120 "not 1 .. 5000 STEPS" (fun q : Nat => s.heap.size ≤ q) s s.heap) (hT_run : tP "java/lang/IllegalArgumentException" 131 "not 1 .. 20000 TICKS" (fun q : Nat => s.heap.size ≤ q) s s.heap) (hT_register : tP "java/lang/IndexOutOfBoundsException" 138 "no such register" (fun q : Nat => s.heap.size ≤ q) s s.heap) (k : Nat) (x4 : Int32) (st mt : CS) (ov : Nat → Int64) (H : Heap) (locs : List Loc) (ls : Array Slot) (h4 : 4 * k + 4 ≤ L) (ex4 : x4 = nI (4 * k)) (hR : Rel k st mt) (hL : LI (dC, dI) (dC, dI, ad1, ca1, tS) (dC, dI, ad2, ca2, t2) qo cJ (fun q : Nat => s.heap.size ≤ q) s st mt ov H locs) (hl : lv_has ls 7 [(0, .ref b), (1, .ref (ad1 0)), (2, .ref (ad2 0)), (3, .ref qo), (4, .int x4)])
    (ih : ∀ (k2 : Nat) (x4 : Int32) (st mt : CS) (ov : Nat → Int64) (H : Heap) (locs : List Loc) (ls : Array Slot), k2 = k + 1 → 4 * k2 ≤ L → x4 = nI (4 * k2) → Rel k2 st mt → LI (dC, dI) (dC, dI, ad1, ca1, tS) (dC, dI, ad2, ca2, t2) qo cJ (fun q : Nat => s.heap.size ≤ q) s st mt ov H locs → lv_has ls 7 [(0, .ref b), (1, .ref (ad1 0)), (2, .ref (ad2 0)), (3, .ref qo), (4, .int x4)] → W p l e room_1 s m #[Value.ref b] below meth c H locs (42 + k2) (S0n + 6 * k2) (lw_Z below #[Value.ref b] s) (F0 m 23 ls [])) : W p l e room_1 s m #[Value.ref b] below meth c H locs (42 + k) (S0n + 6 * k) (lw_Z below #[Value.ref b] s) (F0 m 636 ls []) := by
  obtain ⟨hx, hb, hr, hml, hown, hts, hX, hbl, hlocks, hgv⟩ := C0
  have hA : ∀ q : Nat, s.heap.size ≤ q → (fun q : Nat => s.heap.size ≤ q) q := fun _ h => h
  have hbA : ¬ (fun q : Nat => s.heap.size ≤ q) b := Nat.not_le.mpr hbl
  have hk64 : k < 64 := by omega
  have rc0 : room_1.cells = 175 := rfl
  have rs0 : room_1.slots = 79122 := rfl
  have s00 : S0n = 78068 := rfl
  have hcc : 42 + k ≤ room_1.cells := by omega
  have hss : S0n + 6 * k ≤ room_1.slots := by omega
  have hix1 : vp_in (x4 + (1 : Int32)) L := by rw [ex4]; exact ixL k 1 (by omega) (by omega) (by omega)
  have hcl1 : xs (x4 + (1 : Int32)).toNatClampNeg = xs (4 * k + 1) := by rw [ex4]; exact congrArg xs (clL k 1 (by omega) (by omega))
  have hix2 : vp_in (x4 + (2 : Int32)) L := by rw [ex4]; exact ixL k 2 (by omega) (by omega) (by omega)
  have hcl2 : xs (x4 + (2 : Int32)).toNatClampNeg = xs (4 * k + 2) := by rw [ex4]; exact congrArg xs (clL k 2 (by omega) (by omega))
  have hix3 : vp_in (x4 + (3 : Int32)) L := by rw [ex4]; exact ixL k 3 (by omega) (by omega) (by omega)
  have hcl3 : xs (x4 + (3 : Int32)).toNatClampNeg = xs (4 * k + 3) := by rw [ex4]; exact congrArg xs (clL k 3 (by omega) (by omega))
  obtain ⟨hO, hE, hR2⟩ := HS.2.2.2.2.2.2.2.2.2.2.2.1 k st mt (xs (4 * k + 1)) (xs (4 * k + 2)) hk64 hR
  refine lv_aload_n hx hb dL_law_636 rfl (lv_at hl 1 rfl) ?_
  refine lv_aload_n hx hb dL_law_637 rfl (lv_at hl 0 rfl) ?_
  refine lv_iload hx hb dL_law_638 (lv_at hl 4 rfl) ?_
  refine lv_iconst (v := (1 : Int32)) hx hb dL_law_640 (by decide) ?_
  refine lv_iadd hx hb dL_law_641 ?_
  refine va_sld hx hb hX hbl hbA hL.2.2.2.2.2.2 hix1 dL_law_642 ?_
  rw [hcl1]
  refine lv_aload_n hx hb dL_law_643 rfl (lv_at hl 0 rfl) ?_
  refine lv_iload hx hb dL_law_644 (lv_at hl 4 rfl) ?_
  refine lv_iconst (v := (2 : Int32)) hx hb dL_law_646 (by decide) ?_
  refine lv_iadd hx hb dL_law_647 ?_
  refine va_sld hx hb hX hbl hbA hL.2.2.2.2.2.2 hix2 dL_law_648 ?_
  rw [hcl2]
  refine cy_Vi (As := [.int (xs (4 * k + 1)), .int (xs (4 * k + 2))]) (rest := []) ⟨hx, hb, hml, hown, hts⟩ (c_cPageBoard_entry l (dC, dI, ad1, ca1, tS) st (xs (4 * k + 1)) (xs (4 * k + 2))) (cwV 2 hts (gT_V (fun w h => wAX_in (wAll_in h)) (wLw_in (List.mem_of_getElem? (i := 45) rfl)) (wAX_in (wAll_in mw978)) (wAX_in (wAll_in mw979)) (wAX_in (wAll_in mw1)) (wAX_in (wAll_in mw980))) rfl rfl rfl yd_yX10_entry ⟨Nat.le_of_ble_eq_true rfl, Nat.le_of_ble_eq_true rfl⟩) (va_recv hK1 hL.1 (ci := 10) (q0 := 0) rfl rfl) hK1 hA hZ (cz_ok _) hL.1 hL.dc hL.2.2.2.2.2.2 rfl hl.1 rfl (Nat.le_of_ble_eq_true rfl) dL_law_649 ⟨hcc, hss⟩ (fun H locs hPn hkk hS => ?_)
  have hL : LI (dC, dI) (dC, dI, ad1, ca1, tS) (dC, dI, ad2, ca2, t2) qo cJ (fun q : Nat => s.heap.size ≤ q) s st mt ov H locs := hL.cls hPn hkk hS
  refine lv_aload_n hx hb dL_law_652 rfl (lv_at hl 2 rfl) ?_
  refine lv_aload_n hx hb dL_law_653 rfl (lv_at hl 0 rfl) ?_
  refine lv_iload hx hb dL_law_654 (lv_at hl 4 rfl) ?_
  refine lv_iconst (v := (1 : Int32)) hx hb dL_law_656 (by decide) ?_
  refine lv_iadd hx hb dL_law_657 ?_
  refine va_sld hx hb hX hbl hbA hL.2.2.2.2.2.2 hix1 dL_law_658 ?_
  rw [hcl1]
  refine lv_aload_n hx hb dL_law_659 rfl (lv_at hl 0 rfl) ?_
  refine lv_iload hx hb dL_law_660 (lv_at hl 4 rfl) ?_
  refine lv_iconst (v := (2 : Int32)) hx hb dL_law_662 (by decide) ?_
  refine lv_iadd hx hb dL_law_663 ?_
  refine va_sld hx hb hX hbl hbA hL.2.2.2.2.2.2 hix2 dL_law_664 ?_
  rw [hcl2]
  refine cy_Vi (As := [.int (xs (4 * k + 1)), .int (xs (4 * k + 2))]) (rest := [.int (cPageBoard_entry st (xs (4 * k + 1)) (xs (4 * k + 2)))]) ⟨hx, hb, hml, hown, hts⟩ (c_m_entry l (dC, dI, ad2, ca2, t2) mt (xs (4 * k + 1)) (xs (4 * k + 2)) hO) (cwV 2 hts (gT_V (fun w h => wAX_in (wAll_in h)) (wLw_in (List.mem_of_getElem? (i := 46) rfl)) (wAX_in (wAll_in mw989)) (wAX_in (wAll_in mw990)) (wAX_in (wAll_in mw3)) (wAX_in (wAll_in mw991))) rfl rfl rfl yd_yX11_entry ⟨Nat.le_of_ble_eq_true rfl, Nat.le_of_ble_eq_true rfl⟩) (va_recv hK2 hL.2.1 (ci := 11) (q0 := 0) rfl rfl) hK2 hA trivial (mz_ok _) hL.2.1 hL.dm hL.2.2.2.2.2.2 rfl hl.1 rfl (Nat.le_of_ble_eq_true rfl) dL_law_665 ⟨hcc, hss⟩ (fun H locs hPn hkk hS => ?_)
  have hL : LI (dC, dI) (dC, dI, ad1, ca1, tS) (dC, dI, ad2, ca2, t2) qo cJ (fun q : Nat => s.heap.size ≤ q) s st (m_entry mt (xs (4 * k + 1)) (xs (4 * k + 2))).1 ov H locs := hL.mdl hPn hkk hS
  refine lv_icmp_eq (tgt := 860) hx hb dL_law_668 (by decide) (fun _ => ?_) (fun c9 => absurd hE c9)
  obtain ⟨x5, ex5⟩ : ∃ y : Int32, y = x4 + 4 := ⟨_, rfl⟩
  refine lv_iinc (v := x5) (lv' := [(4, .int x5), (0, .ref b), (1, .ref (ad1 0)), (2, .ref (ad2 0)), (3, .ref qo)]) hx hb dL_law_860 hl (k := 4) rfl (by rw [ex5]; rfl) (by decide) rfl (fun ls hl => ?_)
  refine lv_goto (tgt := 23) hx hb dL_law_863 (by decide) ?_
  refine W.widen (k := 42 + (k + 1)) (n := S0n + 6 * (k + 1)) (by omega) (by omega) ?_
  exact ih (k + 1) x5 st (m_entry mt (xs (4 * k + 1)) (xs (4 * k + 2))).1 ov H locs ls (by omega) (by omega) (by rw [ex5, ex4]; exact nI_4 k) hR2 hL (lv_sub hl [1, 2, 3, 4, 0] rfl)
set_option maxHeartbeats 4000000 in
set_option maxRecDepth 100000 in
theorem law_case_device (Rel : Nat → CS → CS → Prop) (HS : SimAll Rel) {p : Program} {l : Launch} {e : Env} {s : State} {m : MethodId} {below : List Frame} {meth : Method} {c : Code} {dC : Nat → ClassId} {dI : Nat → Nat → Nat} {ad1 ad2 : Nat → Nat} {ca1 ca2 : Nat → ClassId} {tS t2 qo : Nat} {cJ : ClassId} {b L : Nat} {xs : Nat → Int32} (hLn : L ≤ 256) (hl0 : l.stackTraces = false) (C0 : lw_At p s m meth c b L xs) (hK1 : va_K (dC, dI) vwCl (cty (dC, dI, ad1, ca1, tS)) s) (hK2 : va_K (dC, dI) vwCl (mty (dC, dI, ad2, ca2, t2)) s) (hK3 : va_K (dC, dI) vwCl [(cJ, .long)] s) (hZ : cz (dC, dI, ad1, ca1, tS) (fun q : Nat => s.heap.size ≤ q) s s.heap) (hT_peek : tP "java/lang/IndexOutOfBoundsException" 95 "no such word of MEMORY" (fun q : Nat => s.heap.size ≤ q) s s.heap) (hT_stored : tP "java/lang/IndexOutOfBoundsException" 108 "no such word of a SECTOR" (fun q : Nat => s.heap.size ≤ q) s s.heap) (hT_step : tP "java/lang/IllegalArgumentException" 120 "not 1 .. 5000 STEPS" (fun q : Nat => s.heap.size ≤ q) s s.heap) (hT_run : tP "java/lang/IllegalArgumentException" 131 "not 1 .. 20000 TICKS" (fun q : Nat => s.heap.size ≤ q) s s.heap) (hT_register : tP "java/lang/IndexOutOfBoundsException" 138 "no such register" (fun q : Nat => s.heap.size ≤ q) s s.heap) (k : Nat) (x4 : Int32) (st mt : CS) (ov : Nat → Int64) (H : Heap) (locs : List Loc) (ls : Array Slot) (h4 : 4 * k + 4 ≤ L) (ex4 : x4 = nI (4 * k)) (hR : Rel k st mt) (hL : LI (dC, dI) (dC, dI, ad1, ca1, tS) (dC, dI, ad2, ca2, t2) qo cJ (fun q : Nat => s.heap.size ≤ q) s st mt ov H locs) (hl : lv_has ls 7 [(0, .ref b), (1, .ref (ad1 0)), (2, .ref (ad2 0)), (3, .ref qo), (4, .int x4)])
    (ih : ∀ (k2 : Nat) (x4 : Int32) (st mt : CS) (ov : Nat → Int64) (H : Heap) (locs : List Loc) (ls : Array Slot), k2 = k + 1 → 4 * k2 ≤ L → x4 = nI (4 * k2) → Rel k2 st mt → LI (dC, dI) (dC, dI, ad1, ca1, tS) (dC, dI, ad2, ca2, t2) qo cJ (fun q : Nat => s.heap.size ≤ q) s st mt ov H locs → lv_has ls 7 [(0, .ref b), (1, .ref (ad1 0)), (2, .ref (ad2 0)), (3, .ref qo), (4, .int x4)] → W p l e room_1 s m #[Value.ref b] below meth c H locs (42 + k2) (S0n + 6 * k2) (lw_Z below #[Value.ref b] s) (F0 m 23 ls [])) : W p l e room_1 s m #[Value.ref b] below meth c H locs (42 + k) (S0n + 6 * k) (lw_Z below #[Value.ref b] s) (F0 m 673 ls []) := by
  obtain ⟨hx, hb, hr, hml, hown, hts, hX, hbl, hlocks, hgv⟩ := C0
  have hA : ∀ q : Nat, s.heap.size ≤ q → (fun q : Nat => s.heap.size ≤ q) q := fun _ h => h
  have hbA : ¬ (fun q : Nat => s.heap.size ≤ q) b := Nat.not_le.mpr hbl
  have hk64 : k < 64 := by omega
  have rc0 : room_1.cells = 175 := rfl
  have rs0 : room_1.slots = 79122 := rfl
  have s00 : S0n = 78068 := rfl
  have hcc : 42 + k ≤ room_1.cells := by omega
  have hss : S0n + 6 * k ≤ room_1.slots := by omega
  have hix1 : vp_in (x4 + (1 : Int32)) L := by rw [ex4]; exact ixL k 1 (by omega) (by omega) (by omega)
  have hcl1 : xs (x4 + (1 : Int32)).toNatClampNeg = xs (4 * k + 1) := by rw [ex4]; exact congrArg xs (clL k 1 (by omega) (by omega))
  have hix2 : vp_in (x4 + (2 : Int32)) L := by rw [ex4]; exact ixL k 2 (by omega) (by omega) (by omega)
  have hcl2 : xs (x4 + (2 : Int32)).toNatClampNeg = xs (4 * k + 2) := by rw [ex4]; exact congrArg xs (clL k 2 (by omega) (by omega))
  have hix3 : vp_in (x4 + (3 : Int32)) L := by rw [ex4]; exact ixL k 3 (by omega) (by omega) (by omega)
  have hcl3 : xs (x4 + (3 : Int32)).toNatClampNeg = xs (4 * k + 3) := by rw [ex4]; exact congrArg xs (clL k 3 (by omega) (by omega))
  obtain ⟨hO, hE, hR2⟩ := HS.2.2.2.2.2.2.2.2.2.2.2.2.1 k st mt (xs (4 * k + 1)) hk64 hR
  refine lv_aload_n hx hb dL_law_673 rfl (lv_at hl 1 rfl) ?_
  refine lv_aload_n hx hb dL_law_674 rfl (lv_at hl 0 rfl) ?_
  refine lv_iload hx hb dL_law_675 (lv_at hl 4 rfl) ?_
  refine lv_iconst (v := (1 : Int32)) hx hb dL_law_677 (by decide) ?_
  refine lv_iadd hx hb dL_law_678 ?_
  refine va_sld hx hb hX hbl hbA hL.2.2.2.2.2.2 hix1 dL_law_679 ?_
  rw [hcl1]
  refine cy_Vi (As := [.int (xs (4 * k + 1))]) (rest := []) ⟨hx, hb, hml, hown, hts⟩ (c_cPageBoard_device l (dC, dI, ad1, ca1, tS) st (xs (4 * k + 1))) (cwV 1 hts (gT_V (fun w h => wAX_in (wAll_in h)) (wLw_in (List.mem_of_getElem? (i := 47) rfl)) (wAX_in (wAll_in mw992)) (wAX_in (wAll_in mw993)) (wAX_in (wAll_in mw1)) (wAX_in (wAll_in mw994))) rfl rfl rfl yd_yX10_device ⟨Nat.le_of_ble_eq_true rfl, Nat.le_of_ble_eq_true rfl⟩) (va_recv hK1 hL.1 (ci := 10) (q0 := 0) rfl rfl) hK1 hA hZ (cz_ok _) hL.1 hL.dc hL.2.2.2.2.2.2 rfl hl.1 rfl (Nat.le_of_ble_eq_true rfl) dL_law_680 ⟨hcc, hss⟩ (fun H locs hPn hkk hS => ?_)
  have hL : LI (dC, dI) (dC, dI, ad1, ca1, tS) (dC, dI, ad2, ca2, t2) qo cJ (fun q : Nat => s.heap.size ≤ q) s st mt ov H locs := hL.cls hPn hkk hS
  refine lv_aload_n hx hb dL_law_683 rfl (lv_at hl 2 rfl) ?_
  refine lv_aload_n hx hb dL_law_684 rfl (lv_at hl 0 rfl) ?_
  refine lv_iload hx hb dL_law_685 (lv_at hl 4 rfl) ?_
  refine lv_iconst (v := (1 : Int32)) hx hb dL_law_687 (by decide) ?_
  refine lv_iadd hx hb dL_law_688 ?_
  refine va_sld hx hb hX hbl hbA hL.2.2.2.2.2.2 hix1 dL_law_689 ?_
  rw [hcl1]
  refine cy_Vi (As := [.int (xs (4 * k + 1))]) (rest := [.int (cPageBoard_device st (xs (4 * k + 1)))]) ⟨hx, hb, hml, hown, hts⟩ (c_m_device l (dC, dI, ad2, ca2, t2) mt (xs (4 * k + 1)) hO) (cwV 1 hts (gT_V (fun w h => wAX_in (wAll_in h)) (wLw_in (List.mem_of_getElem? (i := 48) rfl)) (wAX_in (wAll_in mw997)) (wAX_in (wAll_in mw998)) (wAX_in (wAll_in mw3)) (wAX_in (wAll_in mw999))) rfl rfl rfl yd_yX11_device ⟨Nat.le_of_ble_eq_true rfl, Nat.le_of_ble_eq_true rfl⟩) (va_recv hK2 hL.2.1 (ci := 11) (q0 := 0) rfl rfl) hK2 hA trivial (mz_ok _) hL.2.1 hL.dm hL.2.2.2.2.2.2 rfl hl.1 rfl (Nat.le_of_ble_eq_true rfl) dL_law_690 ⟨hcc, hss⟩ (fun H locs hPn hkk hS => ?_)
  have hL : LI (dC, dI) (dC, dI, ad1, ca1, tS) (dC, dI, ad2, ca2, t2) qo cJ (fun q : Nat => s.heap.size ≤ q) s st (m_device mt (xs (4 * k + 1))).1 ov H locs := hL.mdl hPn hkk hS
  refine lv_icmp_eq (tgt := 860) hx hb dL_law_693 (by decide) (fun _ => ?_) (fun c9 => absurd hE c9)
  obtain ⟨x5, ex5⟩ : ∃ y : Int32, y = x4 + 4 := ⟨_, rfl⟩
  refine lv_iinc (v := x5) (lv' := [(4, .int x5), (0, .ref b), (1, .ref (ad1 0)), (2, .ref (ad2 0)), (3, .ref qo)]) hx hb dL_law_860 hl (k := 4) rfl (by rw [ex5]; rfl) (by decide) rfl (fun ls hl => ?_)
  refine lv_goto (tgt := 23) hx hb dL_law_863 (by decide) ?_
  refine W.widen (k := 42 + (k + 1)) (n := S0n + 6 * (k + 1)) (by omega) (by omega) ?_
  exact ih (k + 1) x5 st (m_device mt (xs (4 * k + 1))).1 ov H locs ls (by omega) (by omega) (by rw [ex5, ex4]; exact nI_4 k) hR2 hL (lv_sub hl [1, 2, 3, 4, 0] rfl)
set_option maxHeartbeats 4000000 in
set_option maxRecDepth 100000 in
theorem law_case_allowed (Rel : Nat → CS → CS → Prop) (HS : SimAll Rel) {p : Program} {l : Launch} {e : Env} {s : State} {m : MethodId} {below : List Frame} {meth : Method} {c : Code} {dC : Nat → ClassId} {dI : Nat → Nat → Nat} {ad1 ad2 : Nat → Nat} {ca1 ca2 : Nat → ClassId} {tS t2 qo : Nat} {cJ : ClassId} {b L : Nat} {xs : Nat → Int32} (hLn : L ≤ 256) (hl0 : l.stackTraces = false) (C0 : lw_At p s m meth c b L xs) (hK1 : va_K (dC, dI) vwCl (cty (dC, dI, ad1, ca1, tS)) s) (hK2 : va_K (dC, dI) vwCl (mty (dC, dI, ad2, ca2, t2)) s) (hK3 : va_K (dC, dI) vwCl [(cJ, .long)] s) (hZ : cz (dC, dI, ad1, ca1, tS) (fun q : Nat => s.heap.size ≤ q) s s.heap) (hT_peek : tP "java/lang/IndexOutOfBoundsException" 95 "no such word of MEMORY" (fun q : Nat => s.heap.size ≤ q) s s.heap) (hT_stored : tP "java/lang/IndexOutOfBoundsException" 108 "no such word of a SECTOR" (fun q : Nat => s.heap.size ≤ q) s s.heap) (hT_step : tP "java/lang/IllegalArgumentException" 120 "not 1 .. 5000 STEPS" (fun q : Nat => s.heap.size ≤ q) s s.heap) (hT_run : tP "java/lang/IllegalArgumentException" 131 "not 1 .. 20000 TICKS" (fun q : Nat => s.heap.size ≤ q) s s.heap) (hT_register : tP "java/lang/IndexOutOfBoundsException" 138 "no such register" (fun q : Nat => s.heap.size ≤ q) s s.heap) (k : Nat) (x4 : Int32) (st mt : CS) (ov : Nat → Int64) (H : Heap) (locs : List Loc) (ls : Array Slot) (h4 : 4 * k + 4 ≤ L) (ex4 : x4 = nI (4 * k)) (hR : Rel k st mt) (hL : LI (dC, dI) (dC, dI, ad1, ca1, tS) (dC, dI, ad2, ca2, t2) qo cJ (fun q : Nat => s.heap.size ≤ q) s st mt ov H locs) (hl : lv_has ls 7 [(0, .ref b), (1, .ref (ad1 0)), (2, .ref (ad2 0)), (3, .ref qo), (4, .int x4)])
    (ih : ∀ (k2 : Nat) (x4 : Int32) (st mt : CS) (ov : Nat → Int64) (H : Heap) (locs : List Loc) (ls : Array Slot), k2 = k + 1 → 4 * k2 ≤ L → x4 = nI (4 * k2) → Rel k2 st mt → LI (dC, dI) (dC, dI, ad1, ca1, tS) (dC, dI, ad2, ca2, t2) qo cJ (fun q : Nat => s.heap.size ≤ q) s st mt ov H locs → lv_has ls 7 [(0, .ref b), (1, .ref (ad1 0)), (2, .ref (ad2 0)), (3, .ref qo), (4, .int x4)] → W p l e room_1 s m #[Value.ref b] below meth c H locs (42 + k2) (S0n + 6 * k2) (lw_Z below #[Value.ref b] s) (F0 m 23 ls [])) : W p l e room_1 s m #[Value.ref b] below meth c H locs (42 + k) (S0n + 6 * k) (lw_Z below #[Value.ref b] s) (F0 m 698 ls []) := by
  obtain ⟨hx, hb, hr, hml, hown, hts, hX, hbl, hlocks, hgv⟩ := C0
  have hA : ∀ q : Nat, s.heap.size ≤ q → (fun q : Nat => s.heap.size ≤ q) q := fun _ h => h
  have hbA : ¬ (fun q : Nat => s.heap.size ≤ q) b := Nat.not_le.mpr hbl
  have hk64 : k < 64 := by omega
  have rc0 : room_1.cells = 175 := rfl
  have rs0 : room_1.slots = 79122 := rfl
  have s00 : S0n = 78068 := rfl
  have hcc : 42 + k ≤ room_1.cells := by omega
  have hss : S0n + 6 * k ≤ room_1.slots := by omega
  have hix1 : vp_in (x4 + (1 : Int32)) L := by rw [ex4]; exact ixL k 1 (by omega) (by omega) (by omega)
  have hcl1 : xs (x4 + (1 : Int32)).toNatClampNeg = xs (4 * k + 1) := by rw [ex4]; exact congrArg xs (clL k 1 (by omega) (by omega))
  have hix2 : vp_in (x4 + (2 : Int32)) L := by rw [ex4]; exact ixL k 2 (by omega) (by omega) (by omega)
  have hcl2 : xs (x4 + (2 : Int32)).toNatClampNeg = xs (4 * k + 2) := by rw [ex4]; exact congrArg xs (clL k 2 (by omega) (by omega))
  have hix3 : vp_in (x4 + (3 : Int32)) L := by rw [ex4]; exact ixL k 3 (by omega) (by omega) (by omega)
  have hcl3 : xs (x4 + (3 : Int32)).toNatClampNeg = xs (4 * k + 3) := by rw [ex4]; exact congrArg xs (clL k 3 (by omega) (by omega))
  obtain ⟨hO, hE, hR2⟩ := HS.2.2.2.2.2.2.2.2.2.2.2.2.2.1 k st mt (xs (4 * k + 1)) (xs (4 * k + 2)) (xs (4 * k + 3)) hk64 hR
  refine lv_aload_n hx hb dL_law_698 rfl (lv_at hl 1 rfl) ?_
  refine lv_aload_n hx hb dL_law_699 rfl (lv_at hl 0 rfl) ?_
  refine lv_iload hx hb dL_law_700 (lv_at hl 4 rfl) ?_
  refine lv_iconst (v := (1 : Int32)) hx hb dL_law_702 (by decide) ?_
  refine lv_iadd hx hb dL_law_703 ?_
  refine va_sld hx hb hX hbl hbA hL.2.2.2.2.2.2 hix1 dL_law_704 ?_
  rw [hcl1]
  refine lv_aload_n hx hb dL_law_705 rfl (lv_at hl 0 rfl) ?_
  refine lv_iload hx hb dL_law_706 (lv_at hl 4 rfl) ?_
  refine lv_iconst (v := (2 : Int32)) hx hb dL_law_708 (by decide) ?_
  refine lv_iadd hx hb dL_law_709 ?_
  refine va_sld hx hb hX hbl hbA hL.2.2.2.2.2.2 hix2 dL_law_710 ?_
  rw [hcl2]
  refine lv_aload_n hx hb dL_law_711 rfl (lv_at hl 0 rfl) ?_
  refine lv_iload hx hb dL_law_712 (lv_at hl 4 rfl) ?_
  refine lv_iconst (v := (3 : Int32)) hx hb dL_law_714 (by decide) ?_
  refine lv_iadd hx hb dL_law_715 ?_
  refine va_sld hx hb hX hbl hbA hL.2.2.2.2.2.2 hix3 dL_law_716 ?_
  rw [hcl3]
  refine cy_Vi (As := [.int (xs (4 * k + 1)), .int (xs (4 * k + 2)), .int (xs (4 * k + 3))]) (rest := []) ⟨hx, hb, hml, hown, hts⟩ (c_cPageBoard_allowed l (dC, dI, ad1, ca1, tS) st (xs (4 * k + 1)) (xs (4 * k + 2)) (xs (4 * k + 3))) (cwV 3 hts (gT_V (fun w h => wAX_in (wAll_in h)) (wLw_in (List.mem_of_getElem? (i := 49) rfl)) (wAX_in (wAll_in mw1000)) (wAX_in (wAll_in mw1001)) (wAX_in (wAll_in mw1)) (wAX_in (wAll_in mw1002))) rfl rfl rfl yd_yX10_allowed ⟨Nat.le_of_ble_eq_true rfl, Nat.le_of_ble_eq_true rfl⟩) (va_recv hK1 hL.1 (ci := 10) (q0 := 0) rfl rfl) hK1 hA hZ (cz_ok _) hL.1 hL.dc hL.2.2.2.2.2.2 rfl hl.1 rfl (Nat.le_of_ble_eq_true rfl) dL_law_717 ⟨hcc, hss⟩ (fun H locs hPn hkk hS => ?_)
  have hL : LI (dC, dI) (dC, dI, ad1, ca1, tS) (dC, dI, ad2, ca2, t2) qo cJ (fun q : Nat => s.heap.size ≤ q) s st mt ov H locs := hL.cls hPn hkk hS
  refine lv_aload_n hx hb dL_law_720 rfl (lv_at hl 2 rfl) ?_
  refine lv_aload_n hx hb dL_law_721 rfl (lv_at hl 0 rfl) ?_
  refine lv_iload hx hb dL_law_722 (lv_at hl 4 rfl) ?_
  refine lv_iconst (v := (1 : Int32)) hx hb dL_law_724 (by decide) ?_
  refine lv_iadd hx hb dL_law_725 ?_
  refine va_sld hx hb hX hbl hbA hL.2.2.2.2.2.2 hix1 dL_law_726 ?_
  rw [hcl1]
  refine lv_aload_n hx hb dL_law_727 rfl (lv_at hl 0 rfl) ?_
  refine lv_iload hx hb dL_law_728 (lv_at hl 4 rfl) ?_
  refine lv_iconst (v := (2 : Int32)) hx hb dL_law_730 (by decide) ?_
  refine lv_iadd hx hb dL_law_731 ?_
  refine va_sld hx hb hX hbl hbA hL.2.2.2.2.2.2 hix2 dL_law_732 ?_
  rw [hcl2]
  refine lv_aload_n hx hb dL_law_733 rfl (lv_at hl 0 rfl) ?_
  refine lv_iload hx hb dL_law_734 (lv_at hl 4 rfl) ?_
  refine lv_iconst (v := (3 : Int32)) hx hb dL_law_736 (by decide) ?_
  refine lv_iadd hx hb dL_law_737 ?_
  refine va_sld hx hb hX hbl hbA hL.2.2.2.2.2.2 hix3 dL_law_738 ?_
  rw [hcl3]
  refine cy_Vi (As := [.int (xs (4 * k + 1)), .int (xs (4 * k + 2)), .int (xs (4 * k + 3))]) (rest := [.int (cPageBoard_allowed st (xs (4 * k + 1)) (xs (4 * k + 2)) (xs (4 * k + 3)))]) ⟨hx, hb, hml, hown, hts⟩ (c_m_allowed l (dC, dI, ad2, ca2, t2) mt (xs (4 * k + 1)) (xs (4 * k + 2)) (xs (4 * k + 3)) hO) (cwV 3 hts (gT_V (fun w h => wAX_in (wAll_in h)) (wLw_in (List.mem_of_getElem? (i := 50) rfl)) (wAX_in (wAll_in mw1004)) (wAX_in (wAll_in mw1005)) (wAX_in (wAll_in mw3)) (wAX_in (wAll_in mw1006))) rfl rfl rfl yd_yX11_allowed ⟨Nat.le_of_ble_eq_true rfl, Nat.le_of_ble_eq_true rfl⟩) (va_recv hK2 hL.2.1 (ci := 11) (q0 := 0) rfl rfl) hK2 hA trivial (mz_ok _) hL.2.1 hL.dm hL.2.2.2.2.2.2 rfl hl.1 rfl (Nat.le_of_ble_eq_true rfl) dL_law_739 ⟨hcc, hss⟩ (fun H locs hPn hkk hS => ?_)
  have hL : LI (dC, dI) (dC, dI, ad1, ca1, tS) (dC, dI, ad2, ca2, t2) qo cJ (fun q : Nat => s.heap.size ≤ q) s st (m_allowed mt (xs (4 * k + 1)) (xs (4 * k + 2)) (xs (4 * k + 3))).1 ov H locs := hL.mdl hPn hkk hS
  refine lv_icmp_eq (tgt := 860) hx hb dL_law_742 (by decide) (fun _ => ?_) (fun c9 => absurd hE c9)
  obtain ⟨x5, ex5⟩ : ∃ y : Int32, y = x4 + 4 := ⟨_, rfl⟩
  refine lv_iinc (v := x5) (lv' := [(4, .int x5), (0, .ref b), (1, .ref (ad1 0)), (2, .ref (ad2 0)), (3, .ref qo)]) hx hb dL_law_860 hl (k := 4) rfl (by rw [ex5]; rfl) (by decide) rfl (fun ls hl => ?_)
  refine lv_goto (tgt := 23) hx hb dL_law_863 (by decide) ?_
  refine W.widen (k := 42 + (k + 1)) (n := S0n + 6 * (k + 1)) (by omega) (by omega) ?_
  exact ih (k + 1) x5 st (m_allowed mt (xs (4 * k + 1)) (xs (4 * k + 2)) (xs (4 * k + 3))).1 ov H locs ls (by omega) (by omega) (by rw [ex5, ex4]; exact nI_4 k) hR2 hL (lv_sub hl [1, 2, 3, 4, 0] rfl)
set_option maxHeartbeats 4000000 in
set_option maxRecDepth 100000 in
theorem law_case_count (Rel : Nat → CS → CS → Prop) (HS : SimAll Rel) {p : Program} {l : Launch} {e : Env} {s : State} {m : MethodId} {below : List Frame} {meth : Method} {c : Code} {dC : Nat → ClassId} {dI : Nat → Nat → Nat} {ad1 ad2 : Nat → Nat} {ca1 ca2 : Nat → ClassId} {tS t2 qo : Nat} {cJ : ClassId} {b L : Nat} {xs : Nat → Int32} (hLn : L ≤ 256) (hl0 : l.stackTraces = false) (C0 : lw_At p s m meth c b L xs) (hK1 : va_K (dC, dI) vwCl (cty (dC, dI, ad1, ca1, tS)) s) (hK2 : va_K (dC, dI) vwCl (mty (dC, dI, ad2, ca2, t2)) s) (hK3 : va_K (dC, dI) vwCl [(cJ, .long)] s) (hZ : cz (dC, dI, ad1, ca1, tS) (fun q : Nat => s.heap.size ≤ q) s s.heap) (hT_peek : tP "java/lang/IndexOutOfBoundsException" 95 "no such word of MEMORY" (fun q : Nat => s.heap.size ≤ q) s s.heap) (hT_stored : tP "java/lang/IndexOutOfBoundsException" 108 "no such word of a SECTOR" (fun q : Nat => s.heap.size ≤ q) s s.heap) (hT_step : tP "java/lang/IllegalArgumentException" 120 "not 1 .. 5000 STEPS" (fun q : Nat => s.heap.size ≤ q) s s.heap) (hT_run : tP "java/lang/IllegalArgumentException" 131 "not 1 .. 20000 TICKS" (fun q : Nat => s.heap.size ≤ q) s s.heap) (hT_register : tP "java/lang/IndexOutOfBoundsException" 138 "no such register" (fun q : Nat => s.heap.size ≤ q) s s.heap) (k : Nat) (x4 : Int32) (st mt : CS) (ov : Nat → Int64) (H : Heap) (locs : List Loc) (ls : Array Slot) (h4 : 4 * k + 4 ≤ L) (ex4 : x4 = nI (4 * k)) (hR : Rel k st mt) (hL : LI (dC, dI) (dC, dI, ad1, ca1, tS) (dC, dI, ad2, ca2, t2) qo cJ (fun q : Nat => s.heap.size ≤ q) s st mt ov H locs) (hl : lv_has ls 7 [(0, .ref b), (1, .ref (ad1 0)), (2, .ref (ad2 0)), (3, .ref qo), (4, .int x4)])
    (ih : ∀ (k2 : Nat) (x4 : Int32) (st mt : CS) (ov : Nat → Int64) (H : Heap) (locs : List Loc) (ls : Array Slot), k2 = k + 1 → 4 * k2 ≤ L → x4 = nI (4 * k2) → Rel k2 st mt → LI (dC, dI) (dC, dI, ad1, ca1, tS) (dC, dI, ad2, ca2, t2) qo cJ (fun q : Nat => s.heap.size ≤ q) s st mt ov H locs → lv_has ls 7 [(0, .ref b), (1, .ref (ad1 0)), (2, .ref (ad2 0)), (3, .ref qo), (4, .int x4)] → W p l e room_1 s m #[Value.ref b] below meth c H locs (42 + k2) (S0n + 6 * k2) (lw_Z below #[Value.ref b] s) (F0 m 23 ls [])) : W p l e room_1 s m #[Value.ref b] below meth c H locs (42 + k) (S0n + 6 * k) (lw_Z below #[Value.ref b] s) (F0 m 747 ls []) := by
  obtain ⟨hx, hb, hr, hml, hown, hts, hX, hbl, hlocks, hgv⟩ := C0
  have hA : ∀ q : Nat, s.heap.size ≤ q → (fun q : Nat => s.heap.size ≤ q) q := fun _ h => h
  have hbA : ¬ (fun q : Nat => s.heap.size ≤ q) b := Nat.not_le.mpr hbl
  have hk64 : k < 64 := by omega
  have rc0 : room_1.cells = 175 := rfl
  have rs0 : room_1.slots = 79122 := rfl
  have s00 : S0n = 78068 := rfl
  have hcc : 42 + k ≤ room_1.cells := by omega
  have hss : S0n + 6 * k ≤ room_1.slots := by omega
  have hix1 : vp_in (x4 + (1 : Int32)) L := by rw [ex4]; exact ixL k 1 (by omega) (by omega) (by omega)
  have hcl1 : xs (x4 + (1 : Int32)).toNatClampNeg = xs (4 * k + 1) := by rw [ex4]; exact congrArg xs (clL k 1 (by omega) (by omega))
  have hix2 : vp_in (x4 + (2 : Int32)) L := by rw [ex4]; exact ixL k 2 (by omega) (by omega) (by omega)
  have hcl2 : xs (x4 + (2 : Int32)).toNatClampNeg = xs (4 * k + 2) := by rw [ex4]; exact congrArg xs (clL k 2 (by omega) (by omega))
  have hix3 : vp_in (x4 + (3 : Int32)) L := by rw [ex4]; exact ixL k 3 (by omega) (by omega) (by omega)
  have hcl3 : xs (x4 + (3 : Int32)).toNatClampNeg = xs (4 * k + 3) := by rw [ex4]; exact congrArg xs (clL k 3 (by omega) (by omega))
  obtain ⟨hO, hE, hR2⟩ := HS.2.2.2.2.2.2.2.2.2.2.2.2.2.2.1 k st mt (xs (4 * k + 1)) hk64 hR
  refine lv_aload_n hx hb dL_law_747 rfl (lv_at hl 1 rfl) ?_
  refine lv_aload_n hx hb dL_law_748 rfl (lv_at hl 0 rfl) ?_
  refine lv_iload hx hb dL_law_749 (lv_at hl 4 rfl) ?_
  refine lv_iconst (v := (1 : Int32)) hx hb dL_law_751 (by decide) ?_
  refine lv_iadd hx hb dL_law_752 ?_
  refine va_sld hx hb hX hbl hbA hL.2.2.2.2.2.2 hix1 dL_law_753 ?_
  rw [hcl1]
  refine cy_Vl (As := [.int (xs (4 * k + 1))]) (rest := []) ⟨hx, hb, hml, hown, hts⟩ (c_cPageBoard_count l (dC, dI, ad1, ca1, tS) st (xs (4 * k + 1))) (cwV 1 hts (gT_V (fun w h => wAX_in (wAll_in h)) (wLw_in (List.mem_of_getElem? (i := 51) rfl)) (wAX_in (wAll_in mw1008)) (wAX_in (wAll_in mw1009)) (wAX_in (wAll_in mw1)) (wAX_in (wAll_in mw1010))) rfl rfl rfl yd_yX10_count ⟨Nat.le_of_ble_eq_true rfl, Nat.le_of_ble_eq_true rfl⟩) (va_recv hK1 hL.1 (ci := 10) (q0 := 0) rfl rfl) hK1 hA hZ (cz_ok _) hL.1 hL.dc hL.2.2.2.2.2.2 rfl hl.1 rfl (Nat.le_of_ble_eq_true rfl) dL_law_754 ⟨hcc, hss⟩ (fun H locs hPn hkk hS => ?_)
  have hL : LI (dC, dI) (dC, dI, ad1, ca1, tS) (dC, dI, ad2, ca2, t2) qo cJ (fun q : Nat => s.heap.size ≤ q) s st mt ov H locs := hL.cls hPn hkk hS
  refine lv_aload_n hx hb dL_law_757 rfl (lv_at hl 2 rfl) ?_
  refine lv_aload_n hx hb dL_law_758 rfl (lv_at hl 0 rfl) ?_
  refine lv_iload hx hb dL_law_759 (lv_at hl 4 rfl) ?_
  refine lv_iconst (v := (1 : Int32)) hx hb dL_law_761 (by decide) ?_
  refine lv_iadd hx hb dL_law_762 ?_
  refine va_sld hx hb hX hbl hbA hL.2.2.2.2.2.2 hix1 dL_law_763 ?_
  rw [hcl1]
  refine cy_Vl (As := [.int (xs (4 * k + 1))]) (rest := [.long (cPageBoard_count st (xs (4 * k + 1)))]) ⟨hx, hb, hml, hown, hts⟩ (c_m_count l (dC, dI, ad2, ca2, t2) mt (xs (4 * k + 1)) hO) (cwV 1 hts (gT_V (fun w h => wAX_in (wAll_in h)) (wLw_in (List.mem_of_getElem? (i := 52) rfl)) (wAX_in (wAll_in mw1020)) (wAX_in (wAll_in mw1021)) (wAX_in (wAll_in mw3)) (wAX_in (wAll_in mw1022))) rfl rfl rfl yd_yX11_count ⟨Nat.le_of_ble_eq_true rfl, Nat.le_of_ble_eq_true rfl⟩) (va_recv hK2 hL.2.1 (ci := 11) (q0 := 0) rfl rfl) hK2 hA trivial (mz_ok _) hL.2.1 hL.dm hL.2.2.2.2.2.2 rfl hl.1 rfl (Nat.le_of_ble_eq_true rfl) dL_law_764 ⟨hcc, hss⟩ (fun H locs hPn hkk hS => ?_)
  have hL : LI (dC, dI) (dC, dI, ad1, ca1, tS) (dC, dI, ad2, ca2, t2) qo cJ (fun q : Nat => s.heap.size ≤ q) s st (m_count mt (xs (4 * k + 1))).1 ov H locs := hL.mdl hPn hkk hS
  refine W.lcmp hx hb dL_law_767 ?_
  refine lv_if_eq (tgt := 860) hx hb dL_law_768 (by decide) (fun _ => ?_) (fun c9 => absurd (by rw [hE]; exact lgc _) c9)
  obtain ⟨x5, ex5⟩ : ∃ y : Int32, y = x4 + 4 := ⟨_, rfl⟩
  refine lv_iinc (v := x5) (lv' := [(4, .int x5), (0, .ref b), (1, .ref (ad1 0)), (2, .ref (ad2 0)), (3, .ref qo)]) hx hb dL_law_860 hl (k := 4) rfl (by rw [ex5]; rfl) (by decide) rfl (fun ls hl => ?_)
  refine lv_goto (tgt := 23) hx hb dL_law_863 (by decide) ?_
  refine W.widen (k := 42 + (k + 1)) (n := S0n + 6 * (k + 1)) (by omega) (by omega) ?_
  exact ih (k + 1) x5 st (m_count mt (xs (4 * k + 1))).1 ov H locs ls (by omega) (by omega) (by rw [ex5, ex4]; exact nI_4 k) hR2 hL (lv_sub hl [1, 2, 3, 4, 0] rfl)
set_option maxHeartbeats 4000000 in
set_option maxRecDepth 100000 in
theorem law_case_look (Rel : Nat → CS → CS → Prop) (HS : SimAll Rel) {p : Program} {l : Launch} {e : Env} {s : State} {m : MethodId} {below : List Frame} {meth : Method} {c : Code} {dC : Nat → ClassId} {dI : Nat → Nat → Nat} {ad1 ad2 : Nat → Nat} {ca1 ca2 : Nat → ClassId} {tS t2 qo : Nat} {cJ : ClassId} {b L : Nat} {xs : Nat → Int32} (hLn : L ≤ 256) (hl0 : l.stackTraces = false) (C0 : lw_At p s m meth c b L xs) (hK1 : va_K (dC, dI) vwCl (cty (dC, dI, ad1, ca1, tS)) s) (hK2 : va_K (dC, dI) vwCl (mty (dC, dI, ad2, ca2, t2)) s) (hK3 : va_K (dC, dI) vwCl [(cJ, .long)] s) (hZ : cz (dC, dI, ad1, ca1, tS) (fun q : Nat => s.heap.size ≤ q) s s.heap) (hT_peek : tP "java/lang/IndexOutOfBoundsException" 95 "no such word of MEMORY" (fun q : Nat => s.heap.size ≤ q) s s.heap) (hT_stored : tP "java/lang/IndexOutOfBoundsException" 108 "no such word of a SECTOR" (fun q : Nat => s.heap.size ≤ q) s s.heap) (hT_step : tP "java/lang/IllegalArgumentException" 120 "not 1 .. 5000 STEPS" (fun q : Nat => s.heap.size ≤ q) s s.heap) (hT_run : tP "java/lang/IllegalArgumentException" 131 "not 1 .. 20000 TICKS" (fun q : Nat => s.heap.size ≤ q) s s.heap) (hT_register : tP "java/lang/IndexOutOfBoundsException" 138 "no such register" (fun q : Nat => s.heap.size ≤ q) s s.heap) (k : Nat) (x4 : Int32) (st mt : CS) (ov : Nat → Int64) (H : Heap) (locs : List Loc) (ls : Array Slot) (h4 : 4 * k + 4 ≤ L) (ex4 : x4 = nI (4 * k)) (hR : Rel k st mt) (hL : LI (dC, dI) (dC, dI, ad1, ca1, tS) (dC, dI, ad2, ca2, t2) qo cJ (fun q : Nat => s.heap.size ≤ q) s st mt ov H locs) (hl : lv_has ls 7 [(0, .ref b), (1, .ref (ad1 0)), (2, .ref (ad2 0)), (3, .ref qo), (4, .int x4)])
    (ih : ∀ (k2 : Nat) (x4 : Int32) (st mt : CS) (ov : Nat → Int64) (H : Heap) (locs : List Loc) (ls : Array Slot), k2 = k + 1 → 4 * k2 ≤ L → x4 = nI (4 * k2) → Rel k2 st mt → LI (dC, dI) (dC, dI, ad1, ca1, tS) (dC, dI, ad2, ca2, t2) qo cJ (fun q : Nat => s.heap.size ≤ q) s st mt ov H locs → lv_has ls 7 [(0, .ref b), (1, .ref (ad1 0)), (2, .ref (ad2 0)), (3, .ref qo), (4, .int x4)] → W p l e room_1 s m #[Value.ref b] below meth c H locs (42 + k2) (S0n + 6 * k2) (lw_Z below #[Value.ref b] s) (F0 m 23 ls [])) : W p l e room_1 s m #[Value.ref b] below meth c H locs (42 + k) (S0n + 6 * k) (lw_Z below #[Value.ref b] s) (F0 m 773 ls []) := by
  obtain ⟨hx, hb, hr, hml, hown, hts, hX, hbl, hlocks, hgv⟩ := C0
  have hA : ∀ q : Nat, s.heap.size ≤ q → (fun q : Nat => s.heap.size ≤ q) q := fun _ h => h
  have hbA : ¬ (fun q : Nat => s.heap.size ≤ q) b := Nat.not_le.mpr hbl
  have hk64 : k < 64 := by omega
  have rc0 : room_1.cells = 175 := rfl
  have rs0 : room_1.slots = 79122 := rfl
  have s00 : S0n = 78068 := rfl
  have hcc : 42 + k ≤ room_1.cells := by omega
  have hss : S0n + 6 * k ≤ room_1.slots := by omega
  have hix1 : vp_in (x4 + (1 : Int32)) L := by rw [ex4]; exact ixL k 1 (by omega) (by omega) (by omega)
  have hcl1 : xs (x4 + (1 : Int32)).toNatClampNeg = xs (4 * k + 1) := by rw [ex4]; exact congrArg xs (clL k 1 (by omega) (by omega))
  have hix2 : vp_in (x4 + (2 : Int32)) L := by rw [ex4]; exact ixL k 2 (by omega) (by omega) (by omega)
  have hcl2 : xs (x4 + (2 : Int32)).toNatClampNeg = xs (4 * k + 2) := by rw [ex4]; exact congrArg xs (clL k 2 (by omega) (by omega))
  have hix3 : vp_in (x4 + (3 : Int32)) L := by rw [ex4]; exact ixL k 3 (by omega) (by omega) (by omega)
  have hcl3 : xs (x4 + (3 : Int32)).toNatClampNeg = xs (4 * k + 3) := by rw [ex4]; exact congrArg xs (clL k 3 (by omega) (by omega))
  obtain ⟨hO, hE, hR2⟩ := HS.2.2.2.2.2.2.2.2.2.2.2.2.2.2.2.1 k st mt (xs (4 * k + 1)) hk64 hR
  refine lv_aload_n hx hb dL_law_773 rfl (lv_at hl 1 rfl) ?_
  refine lv_aload_n hx hb dL_law_774 rfl (lv_at hl 0 rfl) ?_
  refine lv_iload hx hb dL_law_775 (lv_at hl 4 rfl) ?_
  refine lv_iconst (v := (1 : Int32)) hx hb dL_law_777 (by decide) ?_
  refine lv_iadd hx hb dL_law_778 ?_
  refine va_sld hx hb hX hbl hbA hL.2.2.2.2.2.2 hix1 dL_law_779 ?_
  rw [hcl1]
  refine cy_Vi (As := [.int (xs (4 * k + 1))]) (rest := []) ⟨hx, hb, hml, hown, hts⟩ (c_cPageBoard_look l (dC, dI, ad1, ca1, tS) st (xs (4 * k + 1))) (cwV 1 hts (gT_V (fun w h => wAX_in (wAll_in h)) (wLw_in (List.mem_of_getElem? (i := 53) rfl)) (wAX_in (wAll_in mw1024)) (wAX_in (wAll_in mw1025)) (wAX_in (wAll_in mw1)) (wAX_in (wAll_in mw1026))) rfl rfl rfl yd_yX10_look ⟨Nat.le_of_ble_eq_true rfl, Nat.le_of_ble_eq_true rfl⟩) (va_recv hK1 hL.1 (ci := 10) (q0 := 0) rfl rfl) hK1 hA hZ (cz_ok _) hL.1 hL.dc hL.2.2.2.2.2.2 rfl hl.1 rfl (Nat.le_of_ble_eq_true rfl) dL_law_780 ⟨hcc, hss⟩ (fun H locs hPn hkk hS => ?_)
  have hL : LI (dC, dI) (dC, dI, ad1, ca1, tS) (dC, dI, ad2, ca2, t2) qo cJ (fun q : Nat => s.heap.size ≤ q) s st mt ov H locs := hL.cls hPn hkk hS
  refine lv_aload_n hx hb dL_law_783 rfl (lv_at hl 2 rfl) ?_
  refine lv_aload_n hx hb dL_law_784 rfl (lv_at hl 0 rfl) ?_
  refine lv_iload hx hb dL_law_785 (lv_at hl 4 rfl) ?_
  refine lv_iconst (v := (1 : Int32)) hx hb dL_law_787 (by decide) ?_
  refine lv_iadd hx hb dL_law_788 ?_
  refine va_sld hx hb hX hbl hbA hL.2.2.2.2.2.2 hix1 dL_law_789 ?_
  rw [hcl1]
  refine cy_Vi (As := [.int (xs (4 * k + 1))]) (rest := [.int (cPageBoard_look st (xs (4 * k + 1)))]) ⟨hx, hb, hml, hown, hts⟩ (c_m_look l (dC, dI, ad2, ca2, t2) mt (xs (4 * k + 1)) hO) (cwV 1 hts (gT_V (fun w h => wAX_in (wAll_in h)) (wLw_in (List.mem_of_getElem? (i := 54) rfl)) (wAX_in (wAll_in mw1044)) (wAX_in (wAll_in mw1045)) (wAX_in (wAll_in mw3)) (wAX_in (wAll_in mw1046))) rfl rfl rfl yd_yX11_look ⟨Nat.le_of_ble_eq_true rfl, Nat.le_of_ble_eq_true rfl⟩) (va_recv hK2 hL.2.1 (ci := 11) (q0 := 0) rfl rfl) hK2 hA trivial (mz_ok _) hL.2.1 hL.dm hL.2.2.2.2.2.2 rfl hl.1 rfl (Nat.le_of_ble_eq_true rfl) dL_law_790 ⟨hcc, hss⟩ (fun H locs hPn hkk hS => ?_)
  have hL : LI (dC, dI) (dC, dI, ad1, ca1, tS) (dC, dI, ad2, ca2, t2) qo cJ (fun q : Nat => s.heap.size ≤ q) s st (m_look mt (xs (4 * k + 1))).1 ov H locs := hL.mdl hPn hkk hS
  refine lv_icmp_eq (tgt := 860) hx hb dL_law_793 (by decide) (fun _ => ?_) (fun c9 => absurd hE c9)
  obtain ⟨x5, ex5⟩ : ∃ y : Int32, y = x4 + 4 := ⟨_, rfl⟩
  refine lv_iinc (v := x5) (lv' := [(4, .int x5), (0, .ref b), (1, .ref (ad1 0)), (2, .ref (ad2 0)), (3, .ref qo)]) hx hb dL_law_860 hl (k := 4) rfl (by rw [ex5]; rfl) (by decide) rfl (fun ls hl => ?_)
  refine lv_goto (tgt := 23) hx hb dL_law_863 (by decide) ?_
  refine W.widen (k := 42 + (k + 1)) (n := S0n + 6 * (k + 1)) (by omega) (by omega) ?_
  exact ih (k + 1) x5 st (m_look mt (xs (4 * k + 1))).1 ov H locs ls (by omega) (by omega) (by rw [ex5, ex4]; exact nI_4 k) hR2 hL (lv_sub hl [1, 2, 3, 4, 0] rfl)
set_option maxHeartbeats 4000000 in
set_option maxRecDepth 100000 in
theorem law_case_place (Rel : Nat → CS → CS → Prop) (HS : SimAll Rel) {p : Program} {l : Launch} {e : Env} {s : State} {m : MethodId} {below : List Frame} {meth : Method} {c : Code} {dC : Nat → ClassId} {dI : Nat → Nat → Nat} {ad1 ad2 : Nat → Nat} {ca1 ca2 : Nat → ClassId} {tS t2 qo : Nat} {cJ : ClassId} {b L : Nat} {xs : Nat → Int32} (hLn : L ≤ 256) (hl0 : l.stackTraces = false) (C0 : lw_At p s m meth c b L xs) (hK1 : va_K (dC, dI) vwCl (cty (dC, dI, ad1, ca1, tS)) s) (hK2 : va_K (dC, dI) vwCl (mty (dC, dI, ad2, ca2, t2)) s) (hK3 : va_K (dC, dI) vwCl [(cJ, .long)] s) (hZ : cz (dC, dI, ad1, ca1, tS) (fun q : Nat => s.heap.size ≤ q) s s.heap) (hT_peek : tP "java/lang/IndexOutOfBoundsException" 95 "no such word of MEMORY" (fun q : Nat => s.heap.size ≤ q) s s.heap) (hT_stored : tP "java/lang/IndexOutOfBoundsException" 108 "no such word of a SECTOR" (fun q : Nat => s.heap.size ≤ q) s s.heap) (hT_step : tP "java/lang/IllegalArgumentException" 120 "not 1 .. 5000 STEPS" (fun q : Nat => s.heap.size ≤ q) s s.heap) (hT_run : tP "java/lang/IllegalArgumentException" 131 "not 1 .. 20000 TICKS" (fun q : Nat => s.heap.size ≤ q) s s.heap) (hT_register : tP "java/lang/IndexOutOfBoundsException" 138 "no such register" (fun q : Nat => s.heap.size ≤ q) s s.heap) (k : Nat) (x4 : Int32) (st mt : CS) (ov : Nat → Int64) (H : Heap) (locs : List Loc) (ls : Array Slot) (h4 : 4 * k + 4 ≤ L) (ex4 : x4 = nI (4 * k)) (hR : Rel k st mt) (hL : LI (dC, dI) (dC, dI, ad1, ca1, tS) (dC, dI, ad2, ca2, t2) qo cJ (fun q : Nat => s.heap.size ≤ q) s st mt ov H locs) (hl : lv_has ls 7 [(0, .ref b), (1, .ref (ad1 0)), (2, .ref (ad2 0)), (3, .ref qo), (4, .int x4)])
    (ih : ∀ (k2 : Nat) (x4 : Int32) (st mt : CS) (ov : Nat → Int64) (H : Heap) (locs : List Loc) (ls : Array Slot), k2 = k + 1 → 4 * k2 ≤ L → x4 = nI (4 * k2) → Rel k2 st mt → LI (dC, dI) (dC, dI, ad1, ca1, tS) (dC, dI, ad2, ca2, t2) qo cJ (fun q : Nat => s.heap.size ≤ q) s st mt ov H locs → lv_has ls 7 [(0, .ref b), (1, .ref (ad1 0)), (2, .ref (ad2 0)), (3, .ref qo), (4, .int x4)] → W p l e room_1 s m #[Value.ref b] below meth c H locs (42 + k2) (S0n + 6 * k2) (lw_Z below #[Value.ref b] s) (F0 m 23 ls [])) : W p l e room_1 s m #[Value.ref b] below meth c H locs (42 + k) (S0n + 6 * k) (lw_Z below #[Value.ref b] s) (F0 m 798 ls []) := by
  obtain ⟨hx, hb, hr, hml, hown, hts, hX, hbl, hlocks, hgv⟩ := C0
  have hA : ∀ q : Nat, s.heap.size ≤ q → (fun q : Nat => s.heap.size ≤ q) q := fun _ h => h
  have hbA : ¬ (fun q : Nat => s.heap.size ≤ q) b := Nat.not_le.mpr hbl
  have hk64 : k < 64 := by omega
  have rc0 : room_1.cells = 175 := rfl
  have rs0 : room_1.slots = 79122 := rfl
  have s00 : S0n = 78068 := rfl
  have hcc : 42 + k ≤ room_1.cells := by omega
  have hss : S0n + 6 * k ≤ room_1.slots := by omega
  have hix1 : vp_in (x4 + (1 : Int32)) L := by rw [ex4]; exact ixL k 1 (by omega) (by omega) (by omega)
  have hcl1 : xs (x4 + (1 : Int32)).toNatClampNeg = xs (4 * k + 1) := by rw [ex4]; exact congrArg xs (clL k 1 (by omega) (by omega))
  have hix2 : vp_in (x4 + (2 : Int32)) L := by rw [ex4]; exact ixL k 2 (by omega) (by omega) (by omega)
  have hcl2 : xs (x4 + (2 : Int32)).toNatClampNeg = xs (4 * k + 2) := by rw [ex4]; exact congrArg xs (clL k 2 (by omega) (by omega))
  have hix3 : vp_in (x4 + (3 : Int32)) L := by rw [ex4]; exact ixL k 3 (by omega) (by omega) (by omega)
  have hcl3 : xs (x4 + (3 : Int32)).toNatClampNeg = xs (4 * k + 3) := by rw [ex4]; exact congrArg xs (clL k 3 (by omega) (by omega))
  obtain ⟨hO, hE, hR2⟩ := HS.2.2.2.2.2.2.2.2.2.2.2.2.2.2.2.2.1 k st mt (xs (4 * k + 1)) (xs (4 * k + 2)) hk64 hR
  refine lv_aload_n hx hb dL_law_798 rfl (lv_at hl 1 rfl) ?_
  refine lv_aload_n hx hb dL_law_799 rfl (lv_at hl 0 rfl) ?_
  refine lv_iload hx hb dL_law_800 (lv_at hl 4 rfl) ?_
  refine lv_iconst (v := (1 : Int32)) hx hb dL_law_802 (by decide) ?_
  refine lv_iadd hx hb dL_law_803 ?_
  refine va_sld hx hb hX hbl hbA hL.2.2.2.2.2.2 hix1 dL_law_804 ?_
  rw [hcl1]
  refine lv_aload_n hx hb dL_law_805 rfl (lv_at hl 0 rfl) ?_
  refine lv_iload hx hb dL_law_806 (lv_at hl 4 rfl) ?_
  refine lv_iconst (v := (2 : Int32)) hx hb dL_law_808 (by decide) ?_
  refine lv_iadd hx hb dL_law_809 ?_
  refine va_sld hx hb hX hbl hbA hL.2.2.2.2.2.2 hix2 dL_law_810 ?_
  rw [hcl2]
  refine cy_Vi (As := [.int (xs (4 * k + 1)), .int (xs (4 * k + 2))]) (rest := []) ⟨hx, hb, hml, hown, hts⟩ (c_cPageBoard_place l (dC, dI, ad1, ca1, tS) st (xs (4 * k + 1)) (xs (4 * k + 2))) (cwV 2 hts (gT_V (fun w h => wAX_in (wAll_in h)) (wLw_in (List.mem_of_getElem? (i := 55) rfl)) (wAX_in (wAll_in mw1047)) (wAX_in (wAll_in mw1048)) (wAX_in (wAll_in mw1)) (wAX_in (wAll_in mw1049))) rfl rfl rfl yd_yX10_place ⟨Nat.le_of_ble_eq_true rfl, Nat.le_of_ble_eq_true rfl⟩) (va_recv hK1 hL.1 (ci := 10) (q0 := 0) rfl rfl) hK1 hA hZ (cz_ok _) hL.1 hL.dc hL.2.2.2.2.2.2 rfl hl.1 rfl (Nat.le_of_ble_eq_true rfl) dL_law_811 ⟨hcc, hss⟩ (fun H locs hPn hkk hS => ?_)
  have hL : LI (dC, dI) (dC, dI, ad1, ca1, tS) (dC, dI, ad2, ca2, t2) qo cJ (fun q : Nat => s.heap.size ≤ q) s st mt ov H locs := hL.cls hPn hkk hS
  refine lv_aload_n hx hb dL_law_814 rfl (lv_at hl 2 rfl) ?_
  refine lv_aload_n hx hb dL_law_815 rfl (lv_at hl 0 rfl) ?_
  refine lv_iload hx hb dL_law_816 (lv_at hl 4 rfl) ?_
  refine lv_iconst (v := (1 : Int32)) hx hb dL_law_818 (by decide) ?_
  refine lv_iadd hx hb dL_law_819 ?_
  refine va_sld hx hb hX hbl hbA hL.2.2.2.2.2.2 hix1 dL_law_820 ?_
  rw [hcl1]
  refine lv_aload_n hx hb dL_law_821 rfl (lv_at hl 0 rfl) ?_
  refine lv_iload hx hb dL_law_822 (lv_at hl 4 rfl) ?_
  refine lv_iconst (v := (2 : Int32)) hx hb dL_law_824 (by decide) ?_
  refine lv_iadd hx hb dL_law_825 ?_
  refine va_sld hx hb hX hbl hbA hL.2.2.2.2.2.2 hix2 dL_law_826 ?_
  rw [hcl2]
  refine cy_Vi (As := [.int (xs (4 * k + 1)), .int (xs (4 * k + 2))]) (rest := [.int (cPageBoard_place st (xs (4 * k + 1)) (xs (4 * k + 2)))]) ⟨hx, hb, hml, hown, hts⟩ (c_m_place l (dC, dI, ad2, ca2, t2) mt (xs (4 * k + 1)) (xs (4 * k + 2)) hO) (cwV 2 hts (gT_V (fun w h => wAX_in (wAll_in h)) (wLw_in (List.mem_of_getElem? (i := 56) rfl)) (wAX_in (wAll_in mw1054)) (wAX_in (wAll_in mw1055)) (wAX_in (wAll_in mw3)) (wAX_in (wAll_in mw1056))) rfl rfl rfl yd_yX11_place ⟨Nat.le_of_ble_eq_true rfl, Nat.le_of_ble_eq_true rfl⟩) (va_recv hK2 hL.2.1 (ci := 11) (q0 := 0) rfl rfl) hK2 hA trivial (mz_ok _) hL.2.1 hL.dm hL.2.2.2.2.2.2 rfl hl.1 rfl (Nat.le_of_ble_eq_true rfl) dL_law_827 ⟨hcc, hss⟩ (fun H locs hPn hkk hS => ?_)
  have hL : LI (dC, dI) (dC, dI, ad1, ca1, tS) (dC, dI, ad2, ca2, t2) qo cJ (fun q : Nat => s.heap.size ≤ q) s st (m_place mt (xs (4 * k + 1)) (xs (4 * k + 2))).1 ov H locs := hL.mdl hPn hkk hS
  refine lv_icmp_eq (tgt := 860) hx hb dL_law_830 (by decide) (fun _ => ?_) (fun c9 => absurd hE c9)
  obtain ⟨x5, ex5⟩ : ∃ y : Int32, y = x4 + 4 := ⟨_, rfl⟩
  refine lv_iinc (v := x5) (lv' := [(4, .int x5), (0, .ref b), (1, .ref (ad1 0)), (2, .ref (ad2 0)), (3, .ref qo)]) hx hb dL_law_860 hl (k := 4) rfl (by rw [ex5]; rfl) (by decide) rfl (fun ls hl => ?_)
  refine lv_goto (tgt := 23) hx hb dL_law_863 (by decide) ?_
  refine W.widen (k := 42 + (k + 1)) (n := S0n + 6 * (k + 1)) (by omega) (by omega) ?_
  exact ih (k + 1) x5 st (m_place mt (xs (4 * k + 1)) (xs (4 * k + 2))).1 ov H locs ls (by omega) (by omega) (by rw [ex5, ex4]; exact nI_4 k) hR2 hL (lv_sub hl [1, 2, 3, 4, 0] rfl)
set_option maxHeartbeats 4000000 in
set_option maxRecDepth 100000 in
theorem law_case_letter (Rel : Nat → CS → CS → Prop) (HS : SimAll Rel) {p : Program} {l : Launch} {e : Env} {s : State} {m : MethodId} {below : List Frame} {meth : Method} {c : Code} {dC : Nat → ClassId} {dI : Nat → Nat → Nat} {ad1 ad2 : Nat → Nat} {ca1 ca2 : Nat → ClassId} {tS t2 qo : Nat} {cJ : ClassId} {b L : Nat} {xs : Nat → Int32} (hLn : L ≤ 256) (hl0 : l.stackTraces = false) (C0 : lw_At p s m meth c b L xs) (hK1 : va_K (dC, dI) vwCl (cty (dC, dI, ad1, ca1, tS)) s) (hK2 : va_K (dC, dI) vwCl (mty (dC, dI, ad2, ca2, t2)) s) (hK3 : va_K (dC, dI) vwCl [(cJ, .long)] s) (hZ : cz (dC, dI, ad1, ca1, tS) (fun q : Nat => s.heap.size ≤ q) s s.heap) (hT_peek : tP "java/lang/IndexOutOfBoundsException" 95 "no such word of MEMORY" (fun q : Nat => s.heap.size ≤ q) s s.heap) (hT_stored : tP "java/lang/IndexOutOfBoundsException" 108 "no such word of a SECTOR" (fun q : Nat => s.heap.size ≤ q) s s.heap) (hT_step : tP "java/lang/IllegalArgumentException" 120 "not 1 .. 5000 STEPS" (fun q : Nat => s.heap.size ≤ q) s s.heap) (hT_run : tP "java/lang/IllegalArgumentException" 131 "not 1 .. 20000 TICKS" (fun q : Nat => s.heap.size ≤ q) s s.heap) (hT_register : tP "java/lang/IndexOutOfBoundsException" 138 "no such register" (fun q : Nat => s.heap.size ≤ q) s s.heap) (k : Nat) (x4 : Int32) (st mt : CS) (ov : Nat → Int64) (H : Heap) (locs : List Loc) (ls : Array Slot) (h4 : 4 * k + 4 ≤ L) (ex4 : x4 = nI (4 * k)) (hR : Rel k st mt) (hL : LI (dC, dI) (dC, dI, ad1, ca1, tS) (dC, dI, ad2, ca2, t2) qo cJ (fun q : Nat => s.heap.size ≤ q) s st mt ov H locs) (hl : lv_has ls 7 [(0, .ref b), (1, .ref (ad1 0)), (2, .ref (ad2 0)), (3, .ref qo), (4, .int x4)])
    (ih : ∀ (k2 : Nat) (x4 : Int32) (st mt : CS) (ov : Nat → Int64) (H : Heap) (locs : List Loc) (ls : Array Slot), k2 = k + 1 → 4 * k2 ≤ L → x4 = nI (4 * k2) → Rel k2 st mt → LI (dC, dI) (dC, dI, ad1, ca1, tS) (dC, dI, ad2, ca2, t2) qo cJ (fun q : Nat => s.heap.size ≤ q) s st mt ov H locs → lv_has ls 7 [(0, .ref b), (1, .ref (ad1 0)), (2, .ref (ad2 0)), (3, .ref qo), (4, .int x4)] → W p l e room_1 s m #[Value.ref b] below meth c H locs (42 + k2) (S0n + 6 * k2) (lw_Z below #[Value.ref b] s) (F0 m 23 ls [])) : W p l e room_1 s m #[Value.ref b] below meth c H locs (42 + k) (S0n + 6 * k) (lw_Z below #[Value.ref b] s) (F0 m 835 ls []) := by
  obtain ⟨hx, hb, hr, hml, hown, hts, hX, hbl, hlocks, hgv⟩ := C0
  have hA : ∀ q : Nat, s.heap.size ≤ q → (fun q : Nat => s.heap.size ≤ q) q := fun _ h => h
  have hbA : ¬ (fun q : Nat => s.heap.size ≤ q) b := Nat.not_le.mpr hbl
  have hk64 : k < 64 := by omega
  have rc0 : room_1.cells = 175 := rfl
  have rs0 : room_1.slots = 79122 := rfl
  have s00 : S0n = 78068 := rfl
  have hcc : 42 + k ≤ room_1.cells := by omega
  have hss : S0n + 6 * k ≤ room_1.slots := by omega
  have hix1 : vp_in (x4 + (1 : Int32)) L := by rw [ex4]; exact ixL k 1 (by omega) (by omega) (by omega)
  have hcl1 : xs (x4 + (1 : Int32)).toNatClampNeg = xs (4 * k + 1) := by rw [ex4]; exact congrArg xs (clL k 1 (by omega) (by omega))
  have hix2 : vp_in (x4 + (2 : Int32)) L := by rw [ex4]; exact ixL k 2 (by omega) (by omega) (by omega)
  have hcl2 : xs (x4 + (2 : Int32)).toNatClampNeg = xs (4 * k + 2) := by rw [ex4]; exact congrArg xs (clL k 2 (by omega) (by omega))
  have hix3 : vp_in (x4 + (3 : Int32)) L := by rw [ex4]; exact ixL k 3 (by omega) (by omega) (by omega)
  have hcl3 : xs (x4 + (3 : Int32)).toNatClampNeg = xs (4 * k + 3) := by rw [ex4]; exact congrArg xs (clL k 3 (by omega) (by omega))
  obtain ⟨hO, hE, hR2⟩ := HS.2.2.2.2.2.2.2.2.2.2.2.2.2.2.2.2.2.1 k st mt (xs (4 * k + 1)) hk64 hR
  refine lv_aload_n hx hb dL_law_835 rfl (lv_at hl 1 rfl) ?_
  refine lv_aload_n hx hb dL_law_836 rfl (lv_at hl 0 rfl) ?_
  refine lv_iload hx hb dL_law_837 (lv_at hl 4 rfl) ?_
  refine lv_iconst (v := (1 : Int32)) hx hb dL_law_839 (by decide) ?_
  refine lv_iadd hx hb dL_law_840 ?_
  refine va_sld hx hb hX hbl hbA hL.2.2.2.2.2.2 hix1 dL_law_841 ?_
  rw [hcl1]
  refine cy_Vi (As := [.int (xs (4 * k + 1))]) (rest := []) ⟨hx, hb, hml, hown, hts⟩ (c_cPageBoard_letter l (dC, dI, ad1, ca1, tS) st (xs (4 * k + 1))) (cwV 1 hts (gT_V (fun w h => wAX_in (wAll_in h)) (wLw_in (List.mem_of_getElem? (i := 57) rfl)) (wAX_in (wAll_in mw1057)) (wAX_in (wAll_in mw1058)) (wAX_in (wAll_in mw1)) (wAX_in (wAll_in mw1059))) rfl rfl rfl yd_yX10_letter ⟨Nat.le_of_ble_eq_true rfl, Nat.le_of_ble_eq_true rfl⟩) (va_recv hK1 hL.1 (ci := 10) (q0 := 0) rfl rfl) hK1 hA hZ (cz_ok _) hL.1 hL.dc hL.2.2.2.2.2.2 rfl hl.1 rfl (Nat.le_of_ble_eq_true rfl) dL_law_842 ⟨hcc, hss⟩ (fun H locs hPn hkk hS => ?_)
  have hL : LI (dC, dI) (dC, dI, ad1, ca1, tS) (dC, dI, ad2, ca2, t2) qo cJ (fun q : Nat => s.heap.size ≤ q) s st mt ov H locs := hL.cls hPn hkk hS
  refine lv_aload_n hx hb dL_law_845 rfl (lv_at hl 2 rfl) ?_
  refine lv_aload_n hx hb dL_law_846 rfl (lv_at hl 0 rfl) ?_
  refine lv_iload hx hb dL_law_847 (lv_at hl 4 rfl) ?_
  refine lv_iconst (v := (1 : Int32)) hx hb dL_law_849 (by decide) ?_
  refine lv_iadd hx hb dL_law_850 ?_
  refine va_sld hx hb hX hbl hbA hL.2.2.2.2.2.2 hix1 dL_law_851 ?_
  rw [hcl1]
  refine cy_Vi (As := [.int (xs (4 * k + 1))]) (rest := [.int (cPageBoard_letter st (xs (4 * k + 1)))]) ⟨hx, hb, hml, hown, hts⟩ (c_m_letter l (dC, dI, ad2, ca2, t2) mt (xs (4 * k + 1)) hO) (cwV 1 hts (gT_V (fun w h => wAX_in (wAll_in h)) (wLw_in (List.mem_of_getElem? (i := 58) rfl)) (wAX_in (wAll_in mw1068)) (wAX_in (wAll_in mw1069)) (wAX_in (wAll_in mw3)) (wAX_in (wAll_in mw1070))) rfl rfl rfl yd_yX11_letter ⟨Nat.le_of_ble_eq_true rfl, Nat.le_of_ble_eq_true rfl⟩) (va_recv hK2 hL.2.1 (ci := 11) (q0 := 0) rfl rfl) hK2 hA trivial (mz_ok _) hL.2.1 hL.dm hL.2.2.2.2.2.2 rfl hl.1 rfl (Nat.le_of_ble_eq_true rfl) dL_law_852 ⟨hcc, hss⟩ (fun H locs hPn hkk hS => ?_)
  have hL : LI (dC, dI) (dC, dI, ad1, ca1, tS) (dC, dI, ad2, ca2, t2) qo cJ (fun q : Nat => s.heap.size ≤ q) s st (m_letter mt (xs (4 * k + 1))).1 ov H locs := hL.mdl hPn hkk hS
  refine lv_icmp_eq (tgt := 860) hx hb dL_law_855 (by decide) (fun _ => ?_) (fun c9 => absurd hE c9)
  obtain ⟨x5, ex5⟩ : ∃ y : Int32, y = x4 + 4 := ⟨_, rfl⟩
  refine lv_iinc (v := x5) (lv' := [(4, .int x5), (0, .ref b), (1, .ref (ad1 0)), (2, .ref (ad2 0)), (3, .ref qo)]) hx hb dL_law_860 hl (k := 4) rfl (by rw [ex5]; rfl) (by decide) rfl (fun ls hl => ?_)
  refine lv_goto (tgt := 23) hx hb dL_law_863 (by decide) ?_
  refine W.widen (k := 42 + (k + 1)) (n := S0n + 6 * (k + 1)) (by omega) (by omega) ?_
  exact ih (k + 1) x5 st (m_letter mt (xs (4 * k + 1))).1 ov H locs ls (by omega) (by omega) (by rw [ex5, ex4]; exact nI_4 k) hR2 hL (lv_sub hl [1, 2, 3, 4, 0] rfl)
