theorem gtL {L k : Nat} (c : ¬ nI L - 4 < nI (4 * k)) (hL : L ≤ 256) : 4 * k + 4 ≤ L ∨ 256 < 4 * k := by
  rcases Nat.lt_or_ge 256 (4 * k) with h | h
  · exact Or.inr h
  · left
    rcases Nat.lt_or_ge L 4 with q | q
    · exact absurd (Int32.lt_of_lt_of_le (pk_sneg (a := L) (b := 4) (by omega) q) (nI_pos' (by omega))) c
    · rw [show (4 : Int32) = nI 4 from rfl, pk_sub q] at c
      rcases Nat.lt_or_ge (L - 4) (4 * k) with r | r
      · exact absurd (nI_lt r (by omega)) c
      · omega
set_option maxHeartbeats 4000000 in
set_option maxRecDepth 100000 in
theorem law_loop (Rel : Nat → CS → CS → Prop) (HS : SimAll Rel) (HSk : ∀ k st mt, Rel k st mt → Rel (k + 1) st mt) {p : Program} {l : Launch} {e : Env} {s : State} {m : MethodId} {below : List Frame} {meth : Method} {c : Code} {dC : Nat → ClassId} {dI : Nat → Nat → Nat} {ad1 ad2 : Nat → Nat} {ca1 ca2 : Nat → ClassId} {tS t2 qo : Nat} {cJ : ClassId} {b L : Nat} {xs : Nat → Int32} (hLn : L ≤ 256) (hl0 : l.stackTraces = false) (C0 : lw_At p s m meth c b L xs) (hK1 : va_K (dC, dI) vwCl (cty (dC, dI, ad1, ca1, tS)) s) (hK2 : va_K (dC, dI) vwCl (mty (dC, dI, ad2, ca2, t2)) s) (hK3 : va_K (dC, dI) vwCl [(cJ, .long)] s) (hZ : cz (dC, dI, ad1, ca1, tS) (fun q : Nat => s.heap.size ≤ q) s s.heap) (hT_peek : tP "java/lang/IndexOutOfBoundsException" 95 "no such word of MEMORY" (fun q : Nat => s.heap.size ≤ q) s s.heap) (hT_stored : tP "java/lang/IndexOutOfBoundsException" 108 "no such word of a SECTOR" (fun q : Nat => s.heap.size ≤ q) s s.heap) (hT_step : tP "java/lang/IllegalArgumentException" 120 "not 1 .. 5000 STEPS" (fun q : Nat => s.heap.size ≤ q) s s.heap) (hT_run : tP "java/lang/IllegalArgumentException" 131 "not 1 .. 20000 TICKS" (fun q : Nat => s.heap.size ≤ q) s s.heap) (hT_register : tP "java/lang/IndexOutOfBoundsException" 138 "no such register" (fun q : Nat => s.heap.size ≤ q) s s.heap) :
    ∀ (n k : Nat) (x4 : Int32) (st mt : CS) (ov : Nat → Int64) (H : Heap) (locs : List Loc) (ls : Array Slot), 4 * k ≤ L → L + 1 ≤ 4 * k + n → x4 = nI (4 * k) → Rel k st mt → LI (dC, dI) (dC, dI, ad1, ca1, tS) (dC, dI, ad2, ca2, t2) qo cJ (fun q : Nat => s.heap.size ≤ q) s st mt ov H locs → lv_has ls 7 [(0, .ref b), (1, .ref (ad1 0)), (2, .ref (ad2 0)), (3, .ref qo), (4, .int x4)] → W p l e room_1 s m #[Value.ref b] below meth c H locs (42 + k) (S0n + 6 * k) (lw_Z below #[Value.ref b] s) (F0 m 23 ls []) := by
  obtain ⟨hx, hb, hr, hml, hown, hts, hX, hbl, hlocks, hgv⟩ := id C0
  have hA : ∀ q : Nat, s.heap.size ≤ q → (fun q : Nat => s.heap.size ≤ q) q := fun _ h => h
  have hbA : ¬ (fun q : Nat => s.heap.size ≤ q) b := Nat.not_le.mpr hbl
  intro n
  induction n with
  | zero => intro k x4 st mt ov H locs ls h1 h2; omega
  | succ n ih =>
    intro k x4 st mt ov H locs ls hk hn ex4 hR hL hl
    refine lv_iload hx hb dL_law_23 (lv_at hl 4 rfl) ?_
    refine lv_aload_n hx hb dL_law_25 rfl (lv_at hl 0 rfl) ?_
    refine va_slen hx hb hX hbl hbA hL.2.2.2.2.2.2 dL_law_26 ?_
    refine lv_iconst (v := (4 : Int32)) hx hb dL_law_27 (by decide) ?_
    refine lv_isub hx hb dL_law_28 ?_
    refine lv_icmp_gt (tgt := 866) hx hb dL_law_29 (by decide) (fun c_29 => ?_) (fun c_29 => ?_)
    · refine lv_iconst (v := (1 : Int32)) hx hb dL_law_866 (by decide) ?_
      refine va_forget (fun q hq => hL.2.2.2.2.2.2.2.2 q hq) ?_
      refine W.widen (k := 175) (n := 79122) (by omega) (by omega) ?_
      exact lw_ret hx hb hr hlocks dL_law_867
    · have h4 : 4 * k + 4 ≤ L := by rw [ex4] at c_29; exact (gtL c_29 hLn).resolve_right (by omega)
      have hix0 : vp_in x4 L := by rw [ex4]; exact vp_in_nI (by omega) (by omega)
      have hcl0 : xs x4.toNatClampNeg = xs (4 * k) := by rw [ex4, nI_clamp (by omega)]
      refine lv_aload_n hx hb dL_law_32 rfl (lv_at hl 0 rfl) ?_
      refine lv_iload hx hb dL_law_33 (lv_at hl 4 rfl) ?_
      refine va_sld hx hb hX hbl hbA hL.2.2.2.2.2.2 hix0 dL_law_35 ?_
      rw [hcl0]
      refine lv_bipush (v := (31 : Int32)) hx hb dL_law_36 (by decide) ?_
      refine lv_iand hx hb dL_law_38 ?_
      have ih2 : ∀ (k2 : Nat) (x4 : Int32) (st mt : CS) (ov : Nat → Int64) (H : Heap) (locs : List Loc) (ls : Array Slot), k2 = k + 1 → 4 * k2 ≤ L → x4 = nI (4 * k2) → Rel k2 st mt → LI (dC, dI) (dC, dI, ad1, ca1, tS) (dC, dI, ad2, ca2, t2) qo cJ (fun q : Nat => s.heap.size ≤ q) s st mt ov H locs → lv_has ls 7 [(0, .ref b), (1, .ref (ad1 0)), (2, .ref (ad2 0)), (3, .ref qo), (4, .int x4)] → W p l e room_1 s m #[Value.ref b] below meth c H locs (42 + k2) (S0n + 6 * k2) (lw_Z below #[Value.ref b] s) (F0 m 23 ls []) := fun k2 x4 st mt ov H locs ls h1 h2 h3 h4 h5 h6 => ih k2 x4 st mt ov H locs ls h2 (by omega) h3 h4 h5 h6
      by_cases c_0 : (xs (4 * k) &&& (31 : Int32)) = (0 : Int32)
      · refine lv_tableIn (off := 85) (tgt := 124) hx hb dL_law_39 (by rw [c_0]; decide) (by rw [c_0]; decide) (by rw [c_0]; rfl) (by decide) ?_
        exact law_case_reset Rel HS hLn hl0 C0 hK1 hK2 hK3 hZ hT_peek hT_stored hT_step hT_run hT_register k x4 st mt ov H locs ls h4 ex4 hR hL hl ih2
      by_cases c_1 : (xs (4 * k) &&& (31 : Int32)) = (1 : Int32)
      · refine lv_tableIn (off := 96) (tgt := 135) hx hb dL_law_39 (by rw [c_1]; decide) (by rw [c_1]; decide) (by rw [c_1]; rfl) (by decide) ?_
        exact law_case_poke Rel HS hLn hl0 C0 hK1 hK2 hK3 hZ hT_peek hT_stored hT_step hT_run hT_register k x4 st mt ov H locs ls h4 ex4 hR hL hl ih2
      by_cases c_2 : (xs (4 * k) &&& (31 : Int32)) = (2 : Int32)
      · refine lv_tableIn (off := 145) (tgt := 184) hx hb dL_law_39 (by rw [c_2]; decide) (by rw [c_2]; decide) (by rw [c_2]; rfl) (by decide) ?_
        exact law_case_peek Rel HS hLn hl0 C0 hK1 hK2 hK3 hZ hT_peek hT_stored hT_step hT_run hT_register k x4 st mt ov H locs ls h4 ex4 hR hL hl ih2
      by_cases c_3 : (xs (4 * k) &&& (31 : Int32)) = (3 : Int32)
      · refine lv_tableIn (off := 201) (tgt := 240) hx hb dL_law_39 (by rw [c_3]; decide) (by rw [c_3]; decide) (by rw [c_3]; rfl) (by decide) ?_
        exact law_case_store Rel HS hLn hl0 C0 hK1 hK2 hK3 hZ hT_peek hT_stored hT_step hT_run hT_register k x4 st mt ov H locs ls h4 ex4 hR hL hl ih2
      by_cases c_4 : (xs (4 * k) &&& (31 : Int32)) = (4 : Int32)
      · refine lv_tableIn (off := 250) (tgt := 289) hx hb dL_law_39 (by rw [c_4]; decide) (by rw [c_4]; decide) (by rw [c_4]; rfl) (by decide) ?_
        exact law_case_stored Rel HS hLn hl0 C0 hK1 hK2 hK3 hZ hT_peek hT_stored hT_step hT_run hT_register k x4 st mt ov H locs ls h4 ex4 hR hL hl ih2
      by_cases c_5 : (xs (4 * k) &&& (31 : Int32)) = (5 : Int32)
      · refine lv_tableIn (off := 318) (tgt := 357) hx hb dL_law_39 (by rw [c_5]; decide) (by rw [c_5]; decide) (by rw [c_5]; rfl) (by decide) ?_
        exact law_case_key Rel HS hLn hl0 C0 hK1 hK2 hK3 hZ hT_peek hT_stored hT_step hT_run hT_register k x4 st mt ov H locs ls h4 ex4 hR hL hl ih2
      by_cases c_6 : (xs (4 * k) &&& (31 : Int32)) = (6 : Int32)
      · refine lv_tableIn (off := 343) (tgt := 382) hx hb dL_law_39 (by rw [c_6]; decide) (by rw [c_6]; decide) (by rw [c_6]; rfl) (by decide) ?_
        exact law_case_step Rel HS hLn hl0 C0 hK1 hK2 hK3 hZ hT_peek hT_stored hT_step hT_run hT_register k x4 st mt ov H locs ls h4 ex4 hR hL hl ih2
      by_cases c_7 : (xs (4 * k) &&& (31 : Int32)) = (7 : Int32)
      · refine lv_tableIn (off := 399) (tgt := 438) hx hb dL_law_39 (by rw [c_7]; decide) (by rw [c_7]; decide) (by rw [c_7]; rfl) (by decide) ?_
        exact law_case_run Rel HS hLn hl0 C0 hK1 hK2 hK3 hZ hT_peek hT_stored hT_step hT_run hT_register k x4 st mt ov H locs ls h4 ex4 hR hL hl ih2
      by_cases c_8 : (xs (4 * k) &&& (31 : Int32)) = (8 : Int32)
      · refine lv_tableIn (off := 455) (tgt := 494) hx hb dL_law_39 (by rw [c_8]; decide) (by rw [c_8]; decide) (by rw [c_8]; rfl) (by decide) ?_
        exact law_case_stopAt Rel HS hLn hl0 C0 hK1 hK2 hK3 hZ hT_peek hT_stored hT_step hT_run hT_register k x4 st mt ov H locs ls h4 ex4 hR hL hl ih2
      by_cases c_9 : (xs (4 * k) &&& (31 : Int32)) = (9 : Int32)
      · refine lv_tableIn (off := 480) (tgt := 519) hx hb dL_law_39 (by rw [c_9]; decide) (by rw [c_9]; decide) (by rw [c_9]; rfl) (by decide) ?_
        exact law_case_register Rel HS hLn hl0 C0 hK1 hK2 hK3 hZ hT_peek hT_stored hT_step hT_run hT_register k x4 st mt ov H locs ls h4 ex4 hR hL hl ih2
      by_cases c_10 : (xs (4 * k) &&& (31 : Int32)) = (10 : Int32)
      · refine lv_tableIn (off := 548) (tgt := 587) hx hb dL_law_39 (by rw [c_10]; decide) (by rw [c_10]; decide) (by rw [c_10]; rfl) (by decide) ?_
        exact law_case_put Rel HS hLn hl0 C0 hK1 hK2 hK3 hZ hT_peek hT_stored hT_step hT_run hT_register k x4 st mt ov H locs ls h4 ex4 hR hL hl ih2
      by_cases c_11 : (xs (4 * k) &&& (31 : Int32)) = (11 : Int32)
      · refine lv_tableIn (off := 597) (tgt := 636) hx hb dL_law_39 (by rw [c_11]; decide) (by rw [c_11]; decide) (by rw [c_11]; rfl) (by decide) ?_
        exact law_case_entry Rel HS hLn hl0 C0 hK1 hK2 hK3 hZ hT_peek hT_stored hT_step hT_run hT_register k x4 st mt ov H locs ls h4 ex4 hR hL hl ih2
      by_cases c_12 : (xs (4 * k) &&& (31 : Int32)) = (12 : Int32)
      · refine lv_tableIn (off := 634) (tgt := 673) hx hb dL_law_39 (by rw [c_12]; decide) (by rw [c_12]; decide) (by rw [c_12]; rfl) (by decide) ?_
        exact law_case_device Rel HS hLn hl0 C0 hK1 hK2 hK3 hZ hT_peek hT_stored hT_step hT_run hT_register k x4 st mt ov H locs ls h4 ex4 hR hL hl ih2
      by_cases c_13 : (xs (4 * k) &&& (31 : Int32)) = (13 : Int32)
      · refine lv_tableIn (off := 659) (tgt := 698) hx hb dL_law_39 (by rw [c_13]; decide) (by rw [c_13]; decide) (by rw [c_13]; rfl) (by decide) ?_
        exact law_case_allowed Rel HS hLn hl0 C0 hK1 hK2 hK3 hZ hT_peek hT_stored hT_step hT_run hT_register k x4 st mt ov H locs ls h4 ex4 hR hL hl ih2
      by_cases c_14 : (xs (4 * k) &&& (31 : Int32)) = (14 : Int32)
      · refine lv_tableIn (off := 708) (tgt := 747) hx hb dL_law_39 (by rw [c_14]; decide) (by rw [c_14]; decide) (by rw [c_14]; rfl) (by decide) ?_
        exact law_case_count Rel HS hLn hl0 C0 hK1 hK2 hK3 hZ hT_peek hT_stored hT_step hT_run hT_register k x4 st mt ov H locs ls h4 ex4 hR hL hl ih2
      by_cases c_15 : (xs (4 * k) &&& (31 : Int32)) = (15 : Int32)
      · refine lv_tableIn (off := 734) (tgt := 773) hx hb dL_law_39 (by rw [c_15]; decide) (by rw [c_15]; decide) (by rw [c_15]; rfl) (by decide) ?_
        exact law_case_look Rel HS hLn hl0 C0 hK1 hK2 hK3 hZ hT_peek hT_stored hT_step hT_run hT_register k x4 st mt ov H locs ls h4 ex4 hR hL hl ih2
      by_cases c_16 : (xs (4 * k) &&& (31 : Int32)) = (16 : Int32)
      · refine lv_tableIn (off := 759) (tgt := 798) hx hb dL_law_39 (by rw [c_16]; decide) (by rw [c_16]; decide) (by rw [c_16]; rfl) (by decide) ?_
        exact law_case_place Rel HS hLn hl0 C0 hK1 hK2 hK3 hZ hT_peek hT_stored hT_step hT_run hT_register k x4 st mt ov H locs ls h4 ex4 hR hL hl ih2
      by_cases c_17 : (xs (4 * k) &&& (31 : Int32)) = (17 : Int32)
      · refine lv_tableIn (off := 796) (tgt := 835) hx hb dL_law_39 (by rw [c_17]; decide) (by rw [c_17]; decide) (by rw [c_17]; rfl) (by decide) ?_
        exact law_case_letter Rel HS hLn hl0 C0 hK1 hK2 hK3 hZ hT_peek hT_stored hT_step hT_run hT_register k x4 st mt ov H locs ls h4 ex4 hR hL hl ih2
      refine lv_tableOut (tgt := 860) hx hb dL_law_39 (by have h0 := lv_neT (a := 0) c_0 (by decide); have h1 := lv_neT (a := 1) c_1 (by decide); have h2 := lv_neT (a := 2) c_2 (by decide); have h3 := lv_neT (a := 3) c_3 (by decide); have h4 := lv_neT (a := 4) c_4 (by decide); have h5 := lv_neT (a := 5) c_5 (by decide); have h6 := lv_neT (a := 6) c_6 (by decide); have h7 := lv_neT (a := 7) c_7 (by decide); have h8 := lv_neT (a := 8) c_8 (by decide); have h9 := lv_neT (a := 9) c_9 (by decide); have h10 := lv_neT (a := 10) c_10 (by decide); have h11 := lv_neT (a := 11) c_11 (by decide); have h12 := lv_neT (a := 12) c_12 (by decide); have h13 := lv_neT (a := 13) c_13 (by decide); have h14 := lv_neT (a := 14) c_14 (by decide); have h15 := lv_neT (a := 15) c_15 (by decide); have h16 := lv_neT (a := 16) c_16 (by decide); have h17 := lv_neT (a := 17) c_17 (by decide); omega) (by decide) ?_
      obtain ⟨x5, ex5⟩ : ∃ y : Int32, y = x4 + 4 := ⟨_, rfl⟩
      refine lv_iinc (v := x5) (lv' := [(4, .int x5), (0, .ref b), (1, .ref (ad1 0)), (2, .ref (ad2 0)), (3, .ref qo)]) hx hb dL_law_860 hl (k := 4) rfl (by rw [ex5]; rfl) (by decide) rfl (fun ls hl => ?_)
      refine lv_goto (tgt := 23) hx hb dL_law_863 (by decide) ?_
      refine W.widen (k := 42 + (k + 1)) (n := S0n + 6 * (k + 1)) (by omega) (by omega) ?_
      exact ih2 (k + 1) x5 st mt ov H locs ls rfl (by omega) (by rw [ex5, ex4]; exact nI_4 k) (HSk k st mt hR) hL (lv_sub hl [1, 2, 3, 4, 0] rfl)
theorem slots_in : ∀ j : Nat, j < 64 → Cond.eq (.elem (.static RX6 "SLOTS" "[I") (.int (Int32.ofNat j))) (.int (slotsV j)) ∈ flatC (Jvm.Cond.and given_1 narrow_1) := by decide +kernel
theorem strR {own tx : String} {k : Nat} {args : Array Value} {s : State} (h : (Cond.stringRef own k tx).before args s = true) : ∃ sa : Nat, vk_R own k tx sa s := by
  have h0 : (Cond.stringRef own k tx).before #[] s = true := h
  have h1 := h
  simp only [Cond.before, Cond.holds, Cond.value] at h1
  cases hc : s.vm.findClass own with
  | none => simp [hc] at h1
  | some cur =>
    simp only [hc, Option.map_some] at h1
    cases hr : s.resolvedAt? own k with
    | none => simp [hr] at h1
    | some rr =>
      cases rr with
      | string a => exact ⟨a, h0, by simp [Term.eval, hr]⟩
      | _ => simp [hr] at h1
set_option maxHeartbeats 8000000 in
set_option maxRecDepth 100000 in
/-- THE LAW, from its entry -/
theorem whole_open (Rel : Nat → CS → CS → Prop) (HS : SimAll Rel) (HSk : ∀ k st mt, Rel k st mt → Rel (k + 1) st mt) {p : Program} {e : Env} {s : State} {m : MethodId} {below : List Frame} {meth : Method} {c : Code} (l : Launch) (hl0 : l.stackTraces = false) {b L : Nat} {xs : Nat → Int32} (hL0 : L ≤ 256) (C0 : lw_At p s m meth c b L xs) : W p l e room_1 s m #[Value.ref b] below meth c s.heap [] 0 0 (lw_Z below #[Value.ref b] s) (entryFrame m ([Value.ref b] : List Value).toArray 7) := by
  obtain ⟨hx, hb, hr, hml, hown, hts, hX, hbl, hlocks, hgv⟩ := id C0
  have hA : ∀ q : Nat, s.heap.size ≤ q → (fun q : Nat => s.heap.size ≤ q) q := fun _ h => h
  have hnA : ∀ a : Nat, a < s.heap.size → ¬ (fun q : Nat => s.heap.size ≤ q) a := fun a h => Nat.not_le.mpr h
  have hs := flat_of_before _ hgv
  obtain ⟨cl0, iS0, hKn0⟩ := u_known (C := RX0) (T := TX0) (N := 5) (n := 5) hts (fun w h => (tAll w (isX00 w h)).1) (hts _ (tAll _ mw41).1)
  obtain ⟨cl1, iS1, hKn1⟩ := u_known (C := RX1) (T := TX1) (N := 5) (n := 5) hts (fun w h => (tAll w (isX10 w h)).1) (hts _ (tAll _ mw33).1)
  obtain ⟨cl2, iS2, hKn2⟩ := u_known (C := RX2) (T := TX2) (N := 11) (n := 11) hts (fun w h => (tAll w (isX20 w h)).1) (hts _ (tAll _ mw29).1)
  obtain ⟨cl3, iS3, hKn3⟩ := u_known (C := RX3) (T := TX3) (N := 3) (n := 3) hts (fun w h => (tAll w (isX30 w h)).1) (hts _ (tAll _ mw17).1)
  obtain ⟨cl4, iS4, hKn4⟩ := u_known (C := RX4) (T := TX4) (N := 6) (n := 6) hts (fun w h => (tAll w (isX40 w h)).1) (hts _ (tAll _ mw21).1)
  obtain ⟨cl5, iS5, hKn5⟩ := u_known (C := RX5) (T := TX5) (N := 10) (n := 10) hts (fun w h => (tAll w (isX50 w h)).1) (hts _ (tAll _ mw45).1)
  obtain ⟨cl6, iS6, hKn6⟩ := u_known (C := RX6) (T := TX6) (N := 1) (n := 1) hts (fun w h => (tAll w (isX60 w h)).1) (hts _ (tAll _ mw13).1)
  obtain ⟨cl7, iS7, hKn7⟩ := u_known (C := RX7) (T := TX7) (N := 12) (n := 12) hts (fun w h => (tAll w (isX70 w h)).1) (hts _ (tAll _ mw37).1)
  obtain ⟨cl8, iS8, hKn8⟩ := u_known (C := RX8) (T := TX8) (N := 5) (n := 5) hts (fun w h => (tAll w (isX80 w h)).1) (hts _ (tAll _ mw25).1)
  obtain ⟨cl9, iS9, hKn9⟩ := u_known (C := RX9) (T := TX9) (N := 3) (n := 3) hts (fun w h => (tAll w (isX90 w h)).1) (hts _ (tAll _ mw80).1)
  obtain ⟨cl10, iS10, hKn10⟩ := u_known (C := RX10) (T := TX10) (N := 13) (n := 13) hts (fun w h => (tAll w (isX100 w h)).1) (hts _ (tAll _ mw0).1)
  obtain ⟨cl11, iS11, hKn11⟩ := u_known (C := RX11) (T := TX11) (N := 50) (n := 50) hts (fun w h => (tAll w (isX110 w h)).1) (hts _ (tAll _ mw2).1)
  obtain ⟨dC, dI, hKc⟩ : ∃ (dC : Nat → ClassId) (dI : Nat → Nat → Nat), ∀ (k : Nat) (q : vw_C), vwCl[k]? = some q → u_Kn s q.1 q.2.1 q.2.2 (dC k) (dI k) := by
    refine ⟨fun k => ([cl0, cl1, cl2, cl3, cl4, cl5, cl6, cl7, cl8, cl9, cl10, cl11] : List ClassId).getD k 0, fun k => ([iS0, iS1, iS2, iS3, iS4, iS5, iS6, iS7, iS8, iS9, iS10, iS11] : List (Nat → Nat)).getD k (fun _ => 0), ?_⟩
    intro k q hq
    match k, hq with
    | 0, hq => cases hq; exact hKn0
    | 1, hq => cases hq; exact hKn1
    | 2, hq => cases hq; exact hKn2
    | 3, hq => cases hq; exact hKn3
    | 4, hq => cases hq; exact hKn4
    | 5, hq => cases hq; exact hKn5
    | 6, hq => cases hq; exact hKn6
    | 7, hq => cases hq; exact hKn7
    | 8, hq => cases hq; exact hKn8
    | 9, hq => cases hq; exact hKn9
    | 10, hq => cases hq; exact hKn10
    | 11, hq => cases hq; exact hKn11
    | k + 12, hq => simp [vwCl] at hq
  have hS : va_S (fun q : Nat => s.heap.size ≤ q) s.heap s.heap [] := va_S.rf
  have hK : va_K (dC, dI) vwCl [] s := ⟨hKc, fun k q h => by simp at h⟩
  have hP : va_P (dC, dI) vwCl [] s.heap := fun k q h => by simp at h
  have hD : va_D (fun q : Nat => s.heap.size ≤ q) [] := ⟨fun i j p q h => by simp at h, fun k q h => by simp at h⟩
  have hsl0 : (Cond.arrayOf (.static RX6 "SLOTS" "[I") .int).before #[Value.ref b] s = true := hs _ (by decide +kernel)
  have hsl1 := va_eqt (hs (Cond.eq (.length (.static RX6 "SLOTS" "[I")) (.int 64)) (by decide +kernel))
  have hsl2 : ∀ j : Nat, j < 64 → (Cond.eq (.elem (.static RX6 "SLOTS" "[I") (.int (Int32.ofNat j))) (.int (slotsV j))).before #[Value.ref b] s = true := fun j hj => hs _ (slots_in j hj)
  obtain ⟨tS, htS, hTab⟩ := va_Tof (f := fun j => .int (slotsV j)) (by decide) hsl0 hsl1 (fun j hj => va_eqt (hsl2 j hj)) hnA
  have hZ0 := va_Zref (C := RX6) (n := "SLOTS") (d := "[I") (hts _ (by decide +kernel)) (hts _ (tAll _ mw14).1) htS hnA
  have hZ : cz (dC, dI, (fun _ => 0), (fun _ => 0), tS) (fun q : Nat => s.heap.size ≤ q) s s.heap := ⟨hZ0, hTab⟩
  have hU := vx_Zqof (C := Bundle.tN) (n := "UNASSIGNED_STACK") (d := Bundle.steD) (A := fun q : Nat => s.heap.size ≤ q) (hts _ (by decide +kernel)) (hts _ (by decide +kernel)) (hs _ (by decide +kernel)) hnA
  have hN := vx_Zqof (C := Bundle.tN) (n := "SUPPRESSED_SENTINEL") (d := Bundle.listD) (A := fun q : Nat => s.heap.size ≤ q) (hts _ (by decide +kernel)) (hts _ (by decide +kernel)) (hs _ (by decide +kernel)) hnA
  have hn0 := va_Nw.of (w := .declares (Bundle.initS "java/lang/RuntimeException")) rfl (hts _ (by decide +kernel))
  have hn1 := va_Nw.of (w := .declares (Bundle.initS "java/lang/Exception")) rfl (hts _ (by decide +kernel))
  have hn2 := va_Nw.of (w := .declares (Bundle.initS Bundle.tN)) rfl (hts _ (by decide +kernel))
  have hc0 := va_Nw.of (w := .castable "java/lang/IndexOutOfBoundsException" "java/lang/IndexOutOfBoundsException") rfl (hts _ (by decide +kernel))
  have hc1 := va_Nw.of (w := .castable "java/lang/IllegalArgumentException" "java/lang/IllegalArgumentException") rfl (hts _ (by decide +kernel))
  have hT_peek : tP "java/lang/IndexOutOfBoundsException" 95 "no such word of MEMORY" (fun q : Nat => s.heap.size ≤ q) s s.heap := ⟨hU, hN, strR (hts (.stringRef RX10 95 "no such word of MEMORY") (by decide +kernel)), hn0, hn1, hn2, hc0⟩
  have hT_stored : tP "java/lang/IndexOutOfBoundsException" 108 "no such word of a SECTOR" (fun q : Nat => s.heap.size ≤ q) s s.heap := ⟨hU, hN, strR (hts (.stringRef RX10 108 "no such word of a SECTOR") (by decide +kernel)), hn0, hn1, hn2, hc0⟩
  have hT_step : tP "java/lang/IllegalArgumentException" 120 "not 1 .. 5000 STEPS" (fun q : Nat => s.heap.size ≤ q) s s.heap := ⟨hU, hN, strR (hts (.stringRef RX10 120 "not 1 .. 5000 STEPS") (by decide +kernel)), hn0, hn1, hn2, hc1⟩
  have hT_run : tP "java/lang/IllegalArgumentException" 131 "not 1 .. 20000 TICKS" (fun q : Nat => s.heap.size ≤ q) s s.heap := ⟨hU, hN, strR (hts (.stringRef RX10 131 "not 1 .. 20000 TICKS") (by decide +kernel)), hn0, hn1, hn2, hc1⟩
  have hT_register : tP "java/lang/IndexOutOfBoundsException" 138 "no such register" (fun q : Nat => s.heap.size ≤ q) s s.heap := ⟨hU, hN, strR (hts (.stringRef RX10 138 "no such register") (by decide +kernel)), hn0, hn1, hn2, hc0⟩
  have hm0 := va_Nw.of (w := .methodLinkNest RX10 15 yX6_init "PageBoard") rfl (hts _ (by decide +kernel))
  have hm1 := va_Nw.of (w := .methodLinkNest RX10 22 yX3_init "PageBoard") rfl (hts _ (by decide +kernel))
  have hm2 := va_Nw.of (w := .methodLinkNest RX10 29 yX4_init "PageBoard") rfl (hts _ (by decide +kernel))
  have hm3 := va_Nw.of (w := .methodLinkNest RX1 11 yX9_init "PageBoard") rfl (hts _ (by decide +kernel))
  have hl := lv_entry ([.ref b]) (n := 7) (Nat.le_of_ble_eq_true rfl)
  rw [lg_entry_eq]
  generalize (lg_sl ([.ref b]) ++ List.replicate (7 - (lg_sl ([.ref b])).length) Slot.unset).toArray = ls at hl ⊢
  have hl : lv_has ls 7 [(0, .ref b)] := hl
  refine va_new (ci := 10) (fs := [.null, .null, .null, .null, .null, .null, .null, .null, .null, .null, .int 0, .long 0, .long 0]) (C := RX10) (T := TX10) (N := 13) hx hb hts (fun w h => (tAll w (isX100 w h)).1) tyX10 tyX10_ok hown (hts _ (inT _ (wLw_in (List.mem_of_getElem? (i := 0) rfl)))) (hts _ (tAll _ mw0).1) (hts _ (tAll _ mw1).1) hK hP hD hS hA rfl df_10 (Nat.le_of_ble_eq_true rfl) (Nat.le_of_ble_eq_true rfl) dL_law_0 (fun q1 H hP hD hS => ?_)
  have hP : va_P (dC, dI) vwCl [(q1, .inr (10, [.null, .null, .null, .null, .null, .null, .null, .null, .null, .null, .int 0, .long 0, .long 0]))] H := hP
  have hD : va_D (fun q : Nat => s.heap.size ≤ q) [(q1, .inr (10, [.null, .null, .null, .null, .null, .null, .null, .null, .null, .null, .int 0, .long 0, .long 0]))] := hD
  refine W.widen (k := 1) (n := 13) (by omega) (by omega) ?_
  refine lv_dup hx hb dL_law_3 rfl ?_
  have hFc := va_free (wc := [(q1, .inr (10, [.null, .null, .null, .null, .null, .null, .null, .null, .null, .null, .int 0, .long 0, .long 0]))]) hD hS hA [0] rfl
  refine va_callv (va_runI (As := []) (rest := [.ref q1]) ⟨hx, hb, hml, hown, hts⟩ (c_ini_PageBoard l dC dI q1 tS H.size) (cwI 0 hts (gT (fun w h => (List.mem_cons.mp h).elim (fun e => e ▸ (wAX_in (wAll_in mw6))) (fun h => wAX_in (wAll_in h)))) rfl rfl rfl (hts _ (tAll _ mw1).1) (hts _ (inT _ (wLw_in (List.mem_of_getElem? (i := 2) rfl)))) (hts _ (tAll _ mw5).1) rfl (by decide +kernel) ⟨Nat.le_of_ble_eq_true rfl, Nat.le_of_ble_eq_true rfl⟩) ⟨fun a U g mk q => by obtain ⟨q0, q1, qP, qK, qD, qZ, n0, n1, n2, n3⟩ := q; exact ⟨q0, q1, qP, va_K.moved (u := U) (U := U.calling g mk a) (Vm.Alike.refl U.vm) qK, qD, (cz_ok _).1 _ U (U.calling g mk a) _ (Vm.Alike.refl U.vm) qZ, va_Nw.same rfl rfl n0, va_Nw.same rfl rfl n1, va_Nw.same rfl rfl n2, va_Nw.same rfl rfl n3⟩, fun U hU hW => ⟨rfl, by rw [hU], by rw [hU]; exact hP, va_K.moved hW.alike hK, hD.weaken (fun _ _ _ _ => trivial), by rw [hU]; exact (cz_ok _).2.2 _ _ _ _ ((cz_ok _).2.1 _ U s.heap H ((cz_ok _).1 _ s U s.heap hW.alike hZ) hS.2.1) hFc, va_Nw.warmM hW hm0, va_Nw.warmM hW hm1, va_Nw.warmM hW hm2, va_Nw.warmM hW hm3⟩⟩ rfl rfl hl.1 rfl (lv_room (Nat.le_of_ble_eq_true rfl)) dL_law_4 ⟨Nat.le_of_ble_eq_true rfl, Nat.le_of_ble_eq_true rfl⟩) hS (fun q _ h => hFc q h) hFc (fun g1 t H1 locs ht hvm hw hB hz1 hk1 hS => ?_)
  obtain ⟨dC1, dI1, ad1, ca1, tS1⟩ := g1
  obtain ⟨rfl, rfl, e3, e4⟩ := hw
  have e3 : ad1 0 = q1 := e3
  have e4 : tS1 = tS := e4
  subst e4
  obtain ⟨hP1, hK1, hD1⟩ := hB
  rw [ht] at hP1
  have hK1 := va_K.moved hvm.symm hK1
  have hD1 := hD1.weaken (B := fun q : Nat => s.heap.size ≤ q) (fun _ _ _ h => hFc _ h)
  generalize H1 = H at hP1 hS ⊢
  have hP : va_P (dC, dI) vwCl (cw (dC, dI, ad1, ca1, tS) (cPageBoard_beginAnew c0)) H := hP1
  have hD : va_D (fun q : Nat => s.heap.size ≤ q) (cw (dC, dI, ad1, ca1, tS) (cPageBoard_beginAnew c0)) := hD1
  have hZ : cz (dC, dI, ad1, ca1, tS) (fun q : Nat => s.heap.size ≤ q) s s.heap := hZ
  refine W.widen (k := 22) (n := 39093) (by omega) (by omega) ?_
  refine lv_astore_n (lv' := [(1, .ref q1), (0, .ref b)]) hx hb dL_law_7 rfl hl (by decide) rfl (fun ls hl => ?_)
  refine va_new (ci := 11) (fs := [.int 0, .null, .null, .null, .null, .int 0, .int 0, .int 0, .int 0, .null, .null, .null, .null, .null, .null, .int 0, .int 0, .int 0, .int 0, .null, .null, .long 0, .int 0, .null, .null, .null, .null, .int 0, .int 0, .int 0, .int 0, .int 0, .int 0, .int 0, .int 0, .int 0, .int 0, .int 0, .int 0, .int 0, .int 0, .null, .long 0, .int 0, .long 0, .long 0, .null, .long 0, .long 0, .long 0]) (C := RX11) (T := TX11) (N := 50) hx hb hts (fun w h => (tAll w (isX110 w h)).1) tyX11 tyX11_ok hown (hts _ (inT _ (wLw_in (List.mem_of_getElem? (i := 1) rfl)))) (hts _ (tAll _ mw2).1) (hts _ (tAll _ mw3).1) hK hP hD hS hA rfl df_11 (Nat.le_of_ble_eq_true rfl) (Nat.le_of_ble_eq_true rfl) dL_law_8 (fun q2 H hP hD hS => ?_)
  have hP : va_P (dC, dI) vwCl (cw (dC, dI, ad1, ca1, tS) (cPageBoard_beginAnew c0) ++ [(q2, .inr (11, [.int 0, .null, .null, .null, .null, .int 0, .int 0, .int 0, .int 0, .null, .null, .null, .null, .null, .null, .int 0, .int 0, .int 0, .int 0, .null, .null, .long 0, .int 0, .null, .null, .null, .null, .int 0, .int 0, .int 0, .int 0, .int 0, .int 0, .int 0, .int 0, .int 0, .int 0, .int 0, .int 0, .int 0, .int 0, .null, .long 0, .int 0, .long 0, .long 0, .null, .long 0, .long 0, .long 0]))]) H := hP
  have hD : va_D (fun q : Nat => s.heap.size ≤ q) (cw (dC, dI, ad1, ca1, tS) (cPageBoard_beginAnew c0) ++ [(q2, .inr (11, [.int 0, .null, .null, .null, .null, .int 0, .int 0, .int 0, .int 0, .null, .null, .null, .null, .null, .null, .int 0, .int 0, .int 0, .int 0, .null, .null, .long 0, .int 0, .null, .null, .null, .null, .int 0, .int 0, .int 0, .int 0, .int 0, .int 0, .int 0, .int 0, .int 0, .int 0, .int 0, .int 0, .int 0, .int 0, .null, .long 0, .int 0, .long 0, .long 0, .null, .long 0, .long 0, .long 0]))]) := hD
  refine W.widen (k := 23) (n := 39143) (by omega) (by omega) ?_
  refine lv_dup hx hb dL_law_11 rfl ?_
  have hPc := hP.sub (ws' := [(q2, .inr (11, [.int 0, .null, .null, .null, .null, .int 0, .int 0, .int 0, .int 0, .null, .null, .null, .null, .null, .null, .int 0, .int 0, .int 0, .int 0, .null, .null, .long 0, .int 0, .null, .null, .null, .null, .int 0, .int 0, .int 0, .int 0, .int 0, .int 0, .int 0, .int 0, .int 0, .int 0, .int 0, .int 0, .int 0, .int 0, .null, .long 0, .int 0, .long 0, .long 0, .null, .long 0, .long 0, .long 0]))]) [22] rfl
  have hDc := hD.sub (ws' := [(q2, .inr (11, [.int 0, .null, .null, .null, .null, .int 0, .int 0, .int 0, .int 0, .null, .null, .null, .null, .null, .null, .int 0, .int 0, .int 0, .int 0, .null, .null, .long 0, .int 0, .null, .null, .null, .null, .int 0, .int 0, .int 0, .int 0, .int 0, .int 0, .int 0, .int 0, .int 0, .int 0, .int 0, .int 0, .int 0, .int 0, .null, .long 0, .int 0, .long 0, .long 0, .null, .long 0, .long 0, .long 0]))]) [22] (by decide) rfl
  have hFc := va_free (wc := [(q2, .inr (11, [.int 0, .null, .null, .null, .null, .int 0, .int 0, .int 0, .int 0, .null, .null, .null, .null, .null, .null, .int 0, .int 0, .int 0, .int 0, .null, .null, .long 0, .int 0, .null, .null, .null, .null, .int 0, .int 0, .int 0, .int 0, .int 0, .int 0, .int 0, .int 0, .int 0, .int 0, .int 0, .int 0, .int 0, .int 0, .null, .long 0, .int 0, .long 0, .long 0, .null, .long 0, .long 0, .long 0]))]) hD hS hA [22] rfl
  refine va_callv (va_runI (As := []) (rest := [.ref q2]) ⟨hx, hb, hml, hown, hts⟩ (c_ini_PageBoardModel l dC dI q2 0 H.size HS.2.2.2.2.2.2.2.2.2.2.2.2.2.2.2.2.2.2.2) (cwI 0 hts (gT (fun w h => (List.mem_cons.mp h).elim (fun e => e ▸ (wAX_in (wAll_in mw183))) (fun h => wAX_in (wAll_in h)))) rfl rfl rfl (hts _ (tAll _ mw3).1) (hts _ (inT _ (wLw_in (List.mem_of_getElem? (i := 3) rfl)))) (hts _ (tAll _ mw182).1) rfl (by decide +kernel) ⟨Nat.le_of_ble_eq_true rfl, Nat.le_of_ble_eq_true rfl⟩) ⟨fun a U g mk q => by obtain ⟨q0, q1, qP, qK, qD, qZ⟩ := q; exact ⟨q0, q1, qP, va_K.moved (u := U) (U := U.calling g mk a) (Vm.Alike.refl U.vm) qK, qD, trivial⟩, fun U hU hW => ⟨rfl, by rw [hU], by rw [hU]; exact hPc, va_K.moved hW.alike hK, hDc.weaken (fun _ _ _ _ => trivial), trivial⟩⟩ rfl rfl hl.1 rfl (lv_room (Nat.le_of_ble_eq_true rfl)) dL_law_12 ⟨Nat.le_of_ble_eq_true rfl, Nat.le_of_ble_eq_true rfl⟩) hS (fun q _ h => hFc q h) hFc (fun g2 t H1 locs ht hvm hw hB hz1 hk1 hS => ?_)
  obtain ⟨dC2, dI2, ad2, ca2, t2⟩ := g2
  obtain ⟨rfl, rfl, f3, -⟩ := hw
  have f3 : ad2 0 = q2 := f3
  obtain ⟨hP2, hK2, hD2⟩ := hB
  rw [ht] at hP2
  have hK2 := va_K.moved hvm.symm hK2
  obtain ⟨hP, hD⟩ := va_join (wr := cw (dC, dI, ad1, ca1, tS) (cPageBoard_beginAnew c0)) (w1 := mw (dC, dI, ad2, ca2, t2) (m_reset m0)) hP hD [22] [0, 1, 2, 3, 4, 5, 6, 7, 8, 9, 10, 11, 12, 13, 14, 15, 16, 17, 18, 19, 20, 21] rfl rfl (by decide) (by decide) hk1 hFc hP2 hD2
  generalize H1 = H at hP hS ⊢
  refine W.widen (k := 41) (n := 78067) (by omega) (by omega) ?_
  refine lv_astore_n (lv' := [(2, .ref q2), (1, .ref q1), (0, .ref b)]) hx hb dL_law_15 rfl hl (by decide) rfl (fun ls hl => ?_)
  refine lv_iconst (v := (1 : Int32)) hx hb dL_law_16 (by decide) ?_
  refine va_newa (atype := .long) (ty := .long) (N' := 1) (a0 := (1, .inr (.inl (fun _ => 0)))) hx hb (hts _ (tAll _ mw4).1) rfl hK hP hD hS hA (fun _ => rfl) (by decide) rfl (by decide) (Nat.le_of_ble_eq_true rfl) (Nat.le_of_ble_eq_true rfl) dL_law_17 (fun qo cJ H hK3 hP hD hS => ?_)
  refine W.widen (k := 42 + 0) (n := S0n + 6 * 0) (by omega) (by omega) ?_
  refine lv_astore_n (lv' := [(3, .ref qo), (2, .ref q2), (1, .ref q1), (0, .ref b)]) hx hb dL_law_19 rfl hl (by decide) rfl (fun ls hl => ?_)
  refine lv_iconst (v := (0 : Int32)) hx hb dL_law_20 (by decide) ?_
  refine lv_istore (lv' := [(4, .int 0), (3, .ref qo), (2, .ref q2), (1, .ref q1), (0, .ref b)]) hx hb dL_law_21 hl (by decide) rfl (fun ls hl => ?_)
  subst e3; subst f3
  have hP : va_P (dC, dI) vwCl ((cw (dC, dI, ad1, ca1, tS) (cPageBoard_beginAnew c0) ++ mw (dC, dI, ad2, ca2, t2) (m_reset m0)) ++ oW qo cJ (fun _ => 0)) H := hP
  have hD : va_D (fun q : Nat => s.heap.size ≤ q) ((cw (dC, dI, ad1, ca1, tS) (cPageBoard_beginAnew c0) ++ mw (dC, dI, ad2, ca2, t2) (m_reset m0)) ++ oW qo cJ (fun _ => 0)) := hD
  have hL : LI (dC, dI) (dC, dI, ad1, ca1, tS) (dC, dI, ad2, ca2, t2) qo cJ (fun q : Nat => s.heap.size ≤ q) s (cPageBoard_beginAnew c0) (m_reset m0) (fun _ => 0) H locs := ⟨(appP (appP hP).1).1, (appP (appP hP).1).2, (appP hP).2, dcong (by rfl) hD, hD.sub [22, 23, 24, 25, 26, 27, 28, 29, 30, 31, 32, 33, 34, 35, 36, 37, 38, 39, 40, 0, 1, 2, 3, 4, 5, 6, 7, 8, 9, 10, 11, 12, 13, 14, 15, 16, 17, 18, 19, 20, 21, 41] (by decide) rfl, hD.sub [0, 1, 2, 3, 4, 5, 6, 7, 8, 9, 10, 11, 12, 13, 14, 15, 16, 17, 18, 19, 20, 21, 41, 22, 23, 24, 25, 26, 27, 28, 29, 30, 31, 32, 33, 34, 35, 36, 37, 38, 39, 40] (by decide) rfl, hS⟩
  exact law_loop Rel HS HSk hL0 hl0 C0 hK1 hK2 (hK3.sub [0] rfl) hZ hT_peek hT_stored hT_step hT_run hT_register (L + 1) 0 0 _ _ _ H locs ls (by omega) (by omega) rfl HS.2.2.2.2.2.2.2.2.2.2.2.2.2.2.2.2.2.2.1 hL (lv_sub hl [4, 3, 2, 1, 0] rfl)
