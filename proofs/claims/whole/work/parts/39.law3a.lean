theorem gtL {L k : Nat} (c : ¬ nI L - 4 < nI (4 * k)) (hL : L ≤ 256) : 4 * k + 4 ≤ L ∨ 256 < 4 * k := by
  rcases Nat.lt_or_ge 256 (4 * k) with h | h
  · exact Or.inr h
  · left
    rcases Nat.lt_or_ge L 4 with q | q
    · exact absurd (Int32.lt_of_lt_of_le (pk_sneg (a := L) (b := 4) (by omega) q) (nI_pos' (by omega))) c
    · rw [show (4 : Int32) = nI 4 from rfl, pk_sub q] at c
      rcases Nat.lt_or_ge (L - 4) (4 * k) with r | r
      · exact absurd (nI_lt r (by omega)) c
      · omega
set_option maxHeartbeats 4000000 in
set_option maxRecDepth 100000 in
theorem law_loop (Rel : Nat → CS → CS → Prop) (HS : SimAll Rel) (HSk : ∀ k st mt, Rel k st mt → Rel (k + 1) st mt) {p : Program} {l : Launch} {e : Env} {s : State} {m : MethodId} {below : List Frame} {meth : Method} {c : Code} {dC : Nat → ClassId} {dI : Nat → Nat → Nat} {ad1 ad2 : Nat → Nat} {ca1 ca2 : Nat → ClassId} {tS t2 qo : Nat} {cJ : ClassId} {b L : Nat} {xs : Nat → Int32} (hLn : L ≤ 256) (hl0 : l.stackTraces = false) (C0 : lw_At p s m meth c b L xs) (hK1 : va_K (dC, dI) vwCl (cty (dC, dI, ad1, ca1, tS)) s) (hK2 : va_K (dC, dI) vwCl (mty (dC, dI, ad2, ca2, t2)) s) (hK3 : va_K (dC, dI) vwCl [(cJ, .long)] s) (hZ : cz (dC, dI, ad1, ca1, tS) (fun q : Nat => s.heap.size ≤ q) s s.heap) (hT_peek : tP "java/lang/IndexOutOfBoundsException" 95 "no such word of MEMORY" (fun q : Nat => s.heap.size ≤ q) s s.heap) (hT_stored : tP "java/lang/IndexOutOfBoundsException" 108 "no such word of a SECTOR" (fun q : Nat => s.heap.size ≤ q) s s.heap) (hT_step : tP "java/lang/IllegalArgumentException" 120 "not 1 .. 5000 STEPS" (fun q : Nat => s.heap.size ≤ q) s s.heap) (hT_run : tP "java/lang/IllegalArgumentException" 131 "not 1 .. 20000 TICKS" (fun q : Nat => s.heap.size ≤ q) s s.heap) (hT_register : tP "java/lang/IndexOutOfBoundsException" 138 "no such register" (fun q : Nat => s.heap.size ≤ q) s s.heap) :
    ∀ (n k : Nat) (x4 : Int32) (st mt : CS) (ov : Nat → Int64) (H : Heap) (locs : List Loc) (ls : Array Slot), 4 * k ≤ L → L + 1 ≤ 4 * k + n → x4 = nI (4 * k) → Rel k st mt → LI (dC, dI) (dC, dI, ad1, ca1, tS) (dC, dI, ad2, ca2, t2) qo cJ (fun q : Nat => s.heap.size ≤ q) s st mt ov H locs → lv_has ls 7 [(0, .ref b), (1, .ref (ad1 0)), (2, .ref (ad2 0)), (3, .ref qo), (4, .int x4)] → W p l e room_1 s m #[Value.ref b] below meth c H locs (42 + k) (S0n + 6 * k) (lw_Z below #[Value.ref b] s) (F0 m 23 ls []) := by
  obtain ⟨hx, hb, hr, hml, hown, hts, hX, hbl, hlocks, hgv⟩ := id C0
  have hA : ∀ q : Nat, s.heap.size ≤ q → (fun q : Nat => s.heap.size ≤ q) q := fun _ h => h
  have hbA : ¬ (fun q : Nat => s.heap.size ≤ q) b := Nat.not_le.mpr hbl
  have s00 : S0n = 78068 := rfl
  intro n
  induction n with
  | zero => intro k x4 st mt ov H locs ls h1 h2; omega
  | succ n ih =>
    intro k x4 st mt ov H locs ls hk hn ex4 hR hL hl
    refine lv_iload hx hb dL_law_23 (lv_at hl 4 rfl) ?_
    refine lv_aload_n hx hb dL_law_25 rfl (lv_at hl 0 rfl) ?_
    refine va_slen hx hb hX hbl hbA hL.2.2.2.2.2.2 dL_law_26 ?_
    refine lv_iconst (v := (4 : Int32)) hx hb dL_law_27 (by decide) ?_
    refine lv_isub hx hb dL_law_28 ?_
    refine lv_icmp_gt (tgt := 866) hx hb dL_law_29 (by decide) (fun c_29 => ?_) (fun c_29 => ?_)
    · refine lv_iconst (v := (1 : Int32)) hx hb dL_law_866 (by decide) ?_
      refine va_forget (fun q hq => hL.2.2.2.2.2.2.2.2 q hq) ?_
      refine W.widen (k := 175) (n := 79122) (by omega) (by omega) ?_
      exact lw_ret hx hb hr hlocks dL_law_867
    · have h4 : 4 * k + 4 ≤ L := by rw [ex4] at c_29; exact (gtL c_29 hLn).resolve_right (by omega)
      have hix0 : vp_in x4 L := by rw [ex4]; exact vp_in_nI (by omega) (by omega)
      have hcl0 : xs x4.toNatClampNeg = xs (4 * k) := by rw [ex4, nI_clamp (by omega)]
      refine lv_aload_n hx hb dL_law_32 rfl (lv_at hl 0 rfl) ?_
      refine lv_iload hx hb dL_law_33 (lv_at hl 4 rfl) ?_
      refine va_sld hx hb hX hbl hbA hL.2.2.2.2.2.2 hix0 dL_law_35 ?_
      rw [hcl0]
      refine lv_bipush (v := (31 : Int32)) hx hb dL_law_36 (by decide) ?_
      refine lv_iand hx hb dL_law_38 ?_
      have ih2 : ∀ (k2 : Nat) (x4 : Int32) (st mt : CS) (ov : Nat → Int64) (H : Heap) (locs : List Loc) (ls : Array Slot), k2 = k + 1 → 4 * k2 ≤ L → x4 = nI (4 * k2) → Rel k2 st mt → LI (dC, dI) (dC, dI, ad1, ca1, tS) (dC, dI, ad2, ca2, t2) qo cJ (fun q : Nat => s.heap.size ≤ q) s st mt ov H locs → lv_has ls 7 [(0, .ref b), (1, .ref (ad1 0)), (2, .ref (ad2 0)), (3, .ref qo), (4, .int x4)] → W p l e room_1 s m #[Value.ref b] below meth c H locs (42 + k2) (S0n + 6 * k2) (lw_Z below #[Value.ref b] s) (F0 m 23 ls []) := fun k2 x4 st mt ov H locs ls h1 h2 h3 h4 h5 h6 => ih k2 x4 st mt ov H locs ls h2 (by omega) h3 h4 h5 h6
      by_cases c_0 : (xs (4 * k) &&& (31 : Int32)) = (0 : Int32)
      · refine lv_tableIn (off := 85) (tgt := 124) hx hb dL_law_39 (by rw [c_0]; decide) (by rw [c_0]; decide) (by rw [c_0]; rfl) (by decide) ?_
        exact law_case_reset Rel HS hLn hl0 C0 hK1 hK2 hK3 hZ hT_peek hT_stored hT_step hT_run hT_register k x4 st mt ov H locs ls h4 ex4 hR hL hl ih2
      by_cases c_1 : (xs (4 * k) &&& (31 : Int32)) = (1 : Int32)
      · refine lv_tableIn (off := 96) (tgt := 135) hx hb dL_law_39 (by rw [c_1]; decide) (by rw [c_1]; decide) (by rw [c_1]; rfl) (by decide) ?_
        exact law_case_poke Rel HS hLn hl0 C0 hK1 hK2 hK3 hZ hT_peek hT_stored hT_step hT_run hT_register k x4 st mt ov H locs ls h4 ex4 hR hL hl ih2
      by_cases c_2 : (xs (4 * k) &&& (31 : Int32)) = (2 : Int32)
      · refine lv_tableIn (off := 145) (tgt := 184) hx hb dL_law_39 (by rw [c_2]; decide) (by rw [c_2]; decide) (by rw [c_2]; rfl) (by decide) ?_
        exact law_case_peek Rel HS hLn hl0 C0 hK1 hK2 hK3 hZ hT_peek hT_stored hT_step hT_run hT_register k x4 st mt ov H locs ls h4 ex4 hR hL hl ih2
      by_cases c_3 : (xs (4 * k) &&& (31 : Int32)) = (3 : Int32)
      · refine lv_tableIn (off := 201) (tgt := 240) hx hb dL_law_39 (by rw [c_3]; decide) (by rw [c_3]; decide) (by rw [c_3]; rfl) (by decide) ?_
        exact law_case_store Rel HS hLn hl0 C0 hK1 hK2 hK3 hZ hT_peek hT_stored hT_step hT_run hT_register k x4 st mt ov H locs ls h4 ex4 hR hL hl ih2
      by_cases c_4 : (xs (4 * k) &&& (31 : Int32)) = (4 : Int32)
      · refine lv_tableIn (off := 250) (tgt := 289) hx hb dL_law_39 (by rw [c_4]; decide) (by rw [c_4]; decide) (by rw [c_4]; rfl) (by decide) ?_
        exact law_case_stored Rel HS hLn hl0 C0 hK1 hK2 hK3 hZ hT_peek hT_stored hT_step hT_run hT_register k x4 st mt ov H locs ls h4 ex4 hR hL hl ih2
      by_cases c_5 : (xs (4 * k) &&& (31 : Int32)) = (5 : Int32)
      · refine lv_tableIn (off := 318) (tgt := 357) hx hb dL_law_39 (by rw [c_5]; decide) (by rw [c_5]; decide) (by rw [c_5]; rfl) (by decide) ?_
        exact law_case_key Rel HS hLn hl0 C0 hK1 hK2 hK3 hZ hT_peek hT_stored hT_step hT_run hT_register k x4 st mt ov H locs ls h4 ex4 hR hL hl ih2
      by_cases c_6 : (xs (4 * k) &&& (31 : Int32)) = (6 : Int32)
      · refine lv_tableIn (off := 343) (tgt := 382) hx hb dL_law_39 (by rw [c_6]; decide) (by rw [c_6]; decide) (by rw [c_6]; rfl) (by decide) ?_
        exact law_case_step Rel HS hLn hl0 C0 hK1 hK2 hK3 hZ hT_peek hT_stored hT_step hT_run hT_register k x4 st mt ov H locs ls h4 ex4 hR hL hl ih2
      by_cases c_7 : (xs (4 * k) &&& (31 : Int32)) = (7 : Int32)
      · refine lv_tableIn (off := 399) (tgt := 438) hx hb dL_law_39 (by rw [c_7]; decide) (by rw [c_7]; decide) (by rw [c_7]; rfl) (by decide) ?_
        exact law_case_run Rel HS hLn hl0 C0 hK1 hK2 hK3 hZ hT_peek hT_stored hT_step hT_run hT_register k x4 st mt ov H locs ls h4 ex4 hR hL hl ih2
      by_cases c_8 : (xs (4 * k) &&& (31 : Int32)) = (8 : Int32)
      · refine lv_tableIn (off := 455) (tgt := 494) hx hb dL_law_39 (by rw [c_8]; decide) (by rw [c_8]; decide) (by rw [c_8]; rfl) (by decide) ?_
        exact law_case_stopAt Rel HS hLn hl0 C0 hK1 hK2 hK3 hZ hT_peek hT_stored hT_step hT_run hT_register k x4 st mt ov H locs ls h4 ex4 hR hL hl ih2
      by_cases c_9 : (xs (4 * k) &&& (31 : Int32)) = (9 : Int32)
      · refine lv_tableIn (off := 480) (tgt := 519) hx hb dL_law_39 (by rw [c_9]; decide) (by rw [c_9]; decide) (by rw [c_9]; rfl) (by decide) ?_
        exact law_case_register Rel HS hLn hl0 C0 hK1 hK2 hK3 hZ hT_peek hT_stored hT_step hT_run hT_register k x4 st mt ov H locs ls h4 ex4 hR hL hl ih2
      by_cases c_10 : (xs (4 * k) &&& (31 : Int32)) = (10 : Int32)
      · refine lv_tableIn (off := 548) (tgt := 587) hx hb dL_law_39 (by rw [c_10]; decide) (by rw [c_10]; decide) (by rw [c_10]; rfl) (by decide) ?_
        exact law_case_put Rel HS hLn hl0 C0 hK1 hK2 hK3 hZ hT_peek hT_stored hT_step hT_run hT_register k x4 st mt ov H locs ls h4 ex4 hR hL hl ih2
      by_cases c_11 : (xs (4 * k) &&& (31 : Int32)) = (11 : Int32)
      · refine lv_tableIn (off := 597) (tgt := 636) hx hb dL_law_39 (by rw [c_11]; decide) (by rw [c_11]; decide) (by rw [c_11]; rfl) (by decide) ?_
        exact law_case_entry Rel HS hLn hl0 C0 hK1 hK2 hK3 hZ hT_peek hT_stored hT_step hT_run hT_register k x4 st mt ov H locs ls h4 ex4 hR hL hl ih2
      by_cases c_12 : (xs (4 * k) &&& (31 : Int32)) = (12 : Int32)
      · refine lv_tableIn (off := 634) (tgt := 673) hx hb dL_law_39 (by rw [c_12]; decide) (by rw [c_12]; decide) (by rw [c_12]; rfl) (by decide) ?_
        exact law_case_device Rel HS hLn hl0 C0 hK1 hK2 hK3 hZ hT_peek hT_stored hT_step hT_run hT_register k x4 st mt ov H locs ls h4 ex4 hR hL hl ih2
      by_cases c_13 : (xs (4 * k) &&& (31 : Int32)) = (13 : Int32)
      · refine lv_tableIn (off := 659) (tgt := 698) hx hb dL_law_39 (by rw [c_13]; decide) (by rw [c_13]; decide) (by rw [c_13]; rfl) (by decide) ?_
        exact law_case_allowed Rel HS hLn hl0 C0 hK1 hK2 hK3 hZ hT_peek hT_stored hT_step hT_run hT_register k x4 st mt ov H locs ls h4 ex4 hR hL hl ih2
      by_cases c_14 : (xs (4 * k) &&& (31 : Int32)) = (14 : Int32)
      · refine lv_tableIn (off := 708) (tgt := 747) hx hb dL_law_39 (by rw [c_14]; decide) (by rw [c_14]; decide) (by rw [c_14]; rfl) (by decide) ?_
        exact law_case_count Rel HS hLn hl0 C0 hK1 hK2 hK3 hZ hT_peek hT_stored hT_step hT_run hT_register k x4 st mt ov H locs ls h4 ex4 hR hL hl ih2
      by_cases c_15 : (xs (4 * k) &&& (31 : Int32)) = (15 : Int32)
      · refine lv_tableIn (off := 734) (tgt := 773) hx hb dL_law_39 (by rw [c_15]; decide) (by rw [c_15]; decide) (by rw [c_15]; rfl) (by decide) ?_
        exact law_case_look Rel HS hLn hl0 C0 hK1 hK2 hK3 hZ hT_peek hT_stored hT_step hT_run hT_register k x4 st mt ov H locs ls h4 ex4 hR hL hl ih2
      by_cases c_16 : (xs (4 * k) &&& (31 : Int32)) = (16 : Int32)
      · refine lv_tableIn (off := 759) (tgt := 798) hx hb dL_law_39 (by rw [c_16]; decide) (by rw [c_16]; decide) (by rw [c_16]; rfl) (by decide) ?_
        exact law_case_place Rel HS hLn hl0 C0 hK1 hK2 hK3 hZ hT_peek hT_stored hT_step hT_run hT_register k x4 st mt ov H locs ls h4 ex4 hR hL hl ih2
      by_cases c_17 : (xs (4 * k) &&& (31 : Int32)) = (17 : Int32)
      · refine lv_tableIn (off := 796) (tgt := 835) hx hb dL_law_39 (by rw [c_17]; decide) (by rw [c_17]; decide) (by rw [c_17]; rfl) (by decide) ?_
        exact law_case_letter Rel HS hLn hl0 C0 hK1 hK2 hK3 hZ hT_peek hT_stored hT_step hT_run hT_register k x4 st mt ov H locs ls h4 ex4 hR hL hl ih2
      refine lv_tableOut (tgt := 860) hx hb dL_law_39 (by have h0 := lv_neT (a := 0) c_0 (by decide); have h1 := lv_neT (a := 1) c_1 (by decide); have h2 := lv_neT (a := 2) c_2 (by decide); have h3 := lv_neT (a := 3) c_3 (by decide); have h4 := lv_neT (a := 4) c_4 (by decide); have h5 := lv_neT (a := 5) c_5 (by decide); have h6 := lv_neT (a := 6) c_6 (by decide); have h7 := lv_neT (a := 7) c_7 (by decide); have h8 := lv_neT (a := 8) c_8 (by decide); have h9 := lv_neT (a := 9) c_9 (by decide); have h10 := lv_neT (a := 10) c_10 (by decide); have h11 := lv_neT (a := 11) c_11 (by decide); have h12 := lv_neT (a := 12) c_12 (by decide); have h13 := lv_neT (a := 13) c_13 (by decide); have h14 := lv_neT (a := 14) c_14 (by decide); have h15 := lv_neT (a := 15) c_15 (by decide); have h16 := lv_neT (a := 16) c_16 (by decide); have h17 := lv_neT (a := 17) c_17 (by decide); omega) (by decide) ?_
      obtain ⟨x5, ex5⟩ : ∃ y : Int32, y = x4 + 4 := ⟨_, rfl⟩
      refine lv_iinc (v := x5) (lv' := [(4, .int x5), (0, .ref b), (1, .ref (ad1 0)), (2, .ref (ad2 0)), (3, .ref qo)]) hx hb dL_law_860 hl (k := 4) rfl (by rw [ex5]; rfl) (by decide) rfl (fun ls hl => ?_)
      refine lv_goto (tgt := 23) hx hb dL_law_863 (by decide) ?_
      refine W.widen (k := 42 + (k + 1)) (n := S0n + 6 * (k + 1)) (by omega) (by omega) ?_
      exact ih2 (k + 1) x5 st mt ov H locs ls rfl (by omega) (by rw [ex5, ex4]; exact nI_4 k) (HSk k st mt hR) hL (lv_sub hl [1, 2, 3, 4, 0] rfl)
