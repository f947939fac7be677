/-! PURE 29: which instruction; whether it is done -/
theorem mask_iff (x m v : Int32) (L1 L0 : List Nat) (h32 : ∀ i, i ∈ L1 ++ L0 → i < 32) (hd : ∀ i, i ∈ L0 → i ∉ L1) (hm : ∀ i, i < 32 → bt m i = decide (i ∈ L1 ++ L0)) (hv : ∀ i, i < 32 → bt v i = decide (i ∈ L1)) : x &&& m = v ↔ ((∀ i, i ∈ L1 → bt x i = true) ∧ (∀ i, i ∈ L0 → bt x i = false)) := by
  constructor
  · intro h
    have e : ∀ i, (bt x i && bt m i) = bt v i := fun i => by rw [← b_and, h]
    refine ⟨fun i hi => ?_, fun i hi => ?_⟩
    · have a := e i
      have l := h32 i (List.mem_append.mpr (Or.inl hi))
      rw [hm i l, hv i l, decide_eq_true (List.mem_append.mpr (Or.inl hi)), decide_eq_true hi, Bool.and_true] at a
      exact a
    · have a := e i
      have l := h32 i (List.mem_append.mpr (Or.inr hi))
      rw [hm i l, hv i l, decide_eq_true (List.mem_append.mpr (Or.inr hi)), decide_eq_false (hd i hi), Bool.and_true] at a
      exact a
  · rintro ⟨h1, h0⟩
    refine b_ext fun i hi => ?_
    rw [b_and, hm i hi, hv i hi]
    by_cases c : i ∈ L1
    · rw [h1 i c, decide_eq_true c, decide_eq_true (List.mem_append.mpr (Or.inl c))]; rfl
    · by_cases d : i ∈ L0
      · rw [h0 i d, decide_eq_false c]; rfl
      · rw [decide_eq_false c, decide_eq_false (fun q => (List.mem_append.mp q).elim c d), Bool.and_false]
theorem all2 {p : Nat → Prop} {a b : Nat} : (∀ i, i ∈ [a, b] → p i) ↔ (p a ∧ p b) := by simp
theorem all3 {p : Nat → Prop} {a b c : Nat} : (∀ i, i ∈ [a, b, c] → p i) ↔ (p a ∧ p b ∧ p c) := by simp
theorem all5 {p : Nat → Prop} {a b c d e : Nat} : (∀ i, i ∈ [a, b, c, d, e] → p i) ↔ (p a ∧ p b ∧ p c ∧ p d ∧ p e) := by simp
theorem all0 {p : Nat → Prop} : (∀ i, i ∈ ([] : List Nat) → p i) ↔ True := by simp
theorem d144 (w : Int32) : w &&& 144 = 144 ↔ (bt w 4 = true ∧ bt w 7 = true) :=
  (mask_iff w 144 144 [4, 7] [] (by decide) (by decide) (by decide +kernel) (by decide +kernel)).trans ((and_congr all2 all0).trans (by rw [and_true]))
theorem dBig (w : Int32) : w &&& 29360224 = 0 ↔ (bt w 5 = false ∧ bt w 6 = false ∧ bt w 22 = false ∧ bt w 23 = false ∧ bt w 24 = false) :=
  (mask_iff w 29360224 0 [] [5, 6, 22, 23, 24] (by decide) (by decide) (by decide +kernel) (by decide +kernel)).trans ((and_congr all0 all5).trans (by rw [true_and]))
theorem s4 (w : Int32) (i k : Nat) (hi : i < 28) (hk : k = 4 + i) : bt (w >>> ((4 : Int32) &&& 31)) i = bt w k := by
  have e := b_sshr 4 (by decide) w (i := i) (by omega)
  rw [if_pos (by omega), ← hk] at e
  exact e
theorem s22 (w : Int32) (i k : Nat) (hi : i < 10) (hk : k = 22 + i) : bt (w >>> ((22 : Int32) &&& 31)) i = bt w k := by
  have e := b_sshr 22 (by decide) w (i := i) (by omega)
  rw [if_pos (by omega), ← hk] at e
  exact e
theorem d9 (w : Int32) : (w >>> ((4 : Int32) &&& 31)) &&& 9 = 9 ↔ (bt w 4 = true ∧ bt w 7 = true) :=
  (mask_iff _ 9 9 [0, 3] [] (by decide) (by decide) (by decide +kernel) (by decide +kernel)).trans ((and_congr all2 all0).trans (by rw [s4 w 0 4 (by decide) rfl, s4 w 3 7 (by decide) rfl, and_true]))
theorem d15 (w : Int32) : (w >>> ((4 : Int32) &&& 31)) &&& 15 = 9 ↔ ((bt w 4 = true ∧ bt w 7 = true) ∧ (bt w 5 = false ∧ bt w 6 = false)) :=
  (mask_iff _ 15 9 [0, 3] [1, 2] (by decide) (by decide) (by decide +kernel) (by decide +kernel)).trans ((and_congr all2 all2).trans (by rw [s4 w 0 4 (by decide) rfl, s4 w 3 7 (by decide) rfl, s4 w 1 5 (by decide) rfl, s4 w 2 6 (by decide) rfl]))
theorem d7 (w : Int32) : (w >>> ((22 : Int32) &&& 31)) &&& 7 = 0 ↔ (bt w 22 = false ∧ bt w 23 = false ∧ bt w 24 = false) :=
  (mask_iff _ 7 0 [] [0, 1, 2] (by decide) (by decide) (by decide +kernel) (by decide +kernel)).trans ((and_congr all0 all3).trans (by rw [s22 w 0 22 (by decide) rfl, s22 w 1 23 (by decide) rfl, s22 w 2 24 (by decide) rfl, true_and]))
/-- what the class does behind the condition -/
def cPf (st : CS) : CS × Int32 := (if ((ushr (gI st 32) (25 : Int32)) &&& (7 : Int32)) = (0 : Int32) then (if (((gI st 32) &&& (144 : Int32)) = (144 : Int32)) then (if (((gI st 32) &&& (29360224 : Int32)) = 0) then (cProcessor_instruction_b125 (cProcessor_multiply st).1 (cProcessor_multiply st).2) else ((cProcessor_take st (0 : Int32)).1, (cProcessor_take st (0 : Int32)).2)) else ((cProcessor_work st).1, (cProcessor_work st).2)) else (if ((ushr (gI st 32) (25 : Int32)) &&& (7 : Int32)) = (1 : Int32) then ((cProcessor_work st).1, (cProcessor_work st).2) else (if ((ushr (gI st 32) (25 : Int32)) &&& (7 : Int32)) = (2 : Int32) then (cProcessor_instruction_b139 st ) else (if ((ushr (gI st 32) (25 : Int32)) &&& (7 : Int32)) = (3 : Int32) then (cProcessor_instruction_b139 st ) else (if ((ushr (gI st 32) (25 : Int32)) &&& (7 : Int32)) = (4 : Int32) then ((cProcessor_transferMany st).1, (cProcessor_transferMany st).2) else (if ((ushr (gI st 32) (25 : Int32)) &&& (7 : Int32)) = (5 : Int32) then ((cProcessor_branch st).1, (cProcessor_branch st).2) else (if ((ushr (gI st 32) (25 : Int32)) &&& (7 : Int32)) = (6 : Int32) then ((cProcessor_take st (0 : Int32)).1, (cProcessor_take st (0 : Int32)).2) else (if ((cProcessor_is st (16777216 : Int32)) = 0) then (cProcessor_instruction_b175 st (0 : Int32)) else (cProcessor_instruction_b175 st (1 : Int32))))))))))
theorem b13_is (st : CS) : cProcessor_instruction_b13 st = (if (cProcessor_isSo st (ushr (gI st 32) 28)) = 0 then ((sL st 5 (gL st 5 + 1)), (1 : Int32)) else cPf st) := rfl
theorem perf_eq {N : Nat} (hN : N + 16 < 2 ^ 30) {w : Int32} {st mt : CS} (h : RI N w st mt) : o_m_perform mt w ∧ Dn (N + 16) mt (cPf st) (m_perform mt w) := by
  have z : ¬ (1 : Int32) = 0 := by decide
  have hw : gI st 32 = w := h.2.2.2.2
  obtain ⟨u1, u2⟩ := undef_eq h
  have u3 := u2.mono (N' := N + 16) (by omega)
  unfold o_m_perform m_perform cPf cProcessor_instruction_b125 cProcessor_instruction_b139 cProcessor_instruction_b175 m_perform_b105 o_m_perform_b105 m_perform_b147
  rw [hw]
  by_cases c0 : ushr w 25 &&& 7 = 0
  · rw [if_pos c0, if_pos c0]
    have W := work_eq h
    have B : o_m_perform_b75 mt w ∧ m_perform_b75 mt w = (if (w >>> ((4 : Int32) &&& 31)) &&& 9 = 9 then m_undefined mt else m_work mt w) := by
      unfold o_m_perform_b75 m_perform_b75
      exact ⟨⟨fun _ => ⟨u1, trivial⟩, fun _ => ⟨W.1, trivial⟩⟩, rfl⟩
    have U := mul_eq h
    refine ⟨⟨fun _ => ⟨fun _ => ⟨fun _ => ⟨U.1, trivial⟩, fun _ => B.1⟩, fun _ => B.1⟩, fun q => absurd c0 q⟩, ?_⟩
    rw [B.2]
    by_cases p : w &&& 144 = 144
    · have p9 := (d9 w).mpr ((d144 w).mp p)
      rw [if_pos p, if_pos p9]
      by_cases q : w &&& 29360224 = 0
      · obtain ⟨q1, q2, q3, q4, q5⟩ := (dBig w).mp q
        have r7 := (d7 w).mpr ⟨q3, q4, q5⟩
        have r15 := (d15 w).mpr ⟨(d144 w).mp p, q1, q2⟩
        rw [if_pos q, if_pos r7, if_pos r15]
        exact U.2.mono (by omega)
      · rw [if_neg q]
        by_cases r7 : (w >>> ((22 : Int32) &&& 31)) &&& 7 = 0
        · have r15 : ¬ (w >>> ((4 : Int32) &&& 31)) &&& 15 = 9 := fun r => q ((dBig w).mpr ⟨((d15 w).mp r).2.1, ((d15 w).mp r).2.2, (d7 w).mp r7⟩)
          rw [if_pos r7, if_neg r15]
          exact u3
        · rw [if_neg r7]
          exact u3
    · have p9 : ¬ (w >>> ((4 : Int32) &&& 31)) &&& 9 = 9 := fun r => p ((d144 w).mpr ((d9 w).mp r))
      have r15 : ¬ (w >>> ((4 : Int32) &&& 31)) &&& 15 = 9 := fun r => p ((d144 w).mpr ((d15 w).mp r).1)
      rw [if_neg p, if_neg p9, if_neg r15]
      have V : Dn (N + 16) mt (cProcessor_work st) (m_work mt w) := W.2.mono (by omega)
      by_cases r7 : (w >>> ((22 : Int32) &&& 31)) &&& 7 = 0
      · rw [if_pos r7]
        exact V
      · rw [if_neg r7]
        exact V
  · rw [if_neg c0, if_neg c0]
    by_cases c1 : ushr w 25 &&& 7 = 1
    · rw [if_pos c1, if_pos c1]
      have W := work_eq h
      exact ⟨⟨fun q => absurd q c0, fun _ => ⟨fun _ => ⟨W.1, trivial⟩, fun q => absurd c1 q⟩⟩, W.2.mono (by omega)⟩
    · rw [if_neg c1, if_neg c1]
      have X := transfer_eq h (by omega)
      have X2 : Dn (N + 16) mt (cProcessor_transferOne st) (m_transfer mt w) := X.2.mono (by omega)
      have X1 : o_m_transfer mt w ∧ True := ⟨X.1, trivial⟩
      by_cases c2 : ushr w 25 &&& 7 = 2
      · rw [if_pos c2, if_pos c2]
        exact ⟨⟨fun q => absurd q c0, fun _ => ⟨fun q => absurd q c1, fun _ => ⟨fun _ => X1, fun q => absurd c2 q⟩⟩⟩, X2⟩
      · rw [if_neg c2, if_neg c2]
        by_cases c3 : ushr w 25 &&& 7 = 3
        · rw [if_pos c3, if_pos c3]
          exact ⟨⟨fun q => absurd q c0, fun _ => ⟨fun q => absurd q c1, fun _ => ⟨fun q => absurd q c2, fun _ => ⟨fun _ => X1, fun q => absurd c3 q⟩⟩⟩⟩, X2⟩
        · rw [if_neg c3, if_neg c3]
          by_cases c4 : ushr w 25 &&& 7 = 4
          · rw [if_pos c4, if_pos c4]
            have Y := many_eq hN h
            exact ⟨⟨fun q => absurd q c0, fun _ => ⟨fun q => absurd q c1, fun _ => ⟨fun q => absurd q c2, fun _ => ⟨fun q => absurd q c3, fun _ => ⟨fun _ => ⟨Y.1, trivial⟩, fun q => absurd c4 q⟩⟩⟩⟩⟩, Y.2⟩
          · rw [if_neg c4, if_neg c4]
            by_cases c5 : ushr w 25 &&& 7 = 5
            · rw [if_pos c5, if_pos c5]
              have Y := branch_eq h
              exact ⟨⟨fun q => absurd q c0, fun _ => ⟨fun q => absurd q c1, fun _ => ⟨fun q => absurd q c2, fun _ => ⟨fun q => absurd q c3, fun _ => ⟨fun q => absurd q c4, fun _ => ⟨fun _ => ⟨Y.1, trivial⟩, fun q => absurd c5 q⟩⟩⟩⟩⟩⟩, Y.2.mono (by omega)⟩
            · rw [if_neg c5, if_neg c5]
              by_cases c6 : ushr w 25 &&& 7 = 6
              · rw [if_pos c6, if_pos c6]
                exact ⟨⟨fun q => absurd q c0, fun _ => ⟨fun q => absurd q c1, fun _ => ⟨fun q => absurd q c2, fun _ => ⟨fun q => absurd q c3, fun _ => ⟨fun q => absurd q c4, fun _ => ⟨fun q => absurd q c5, fun _ => ⟨fun _ => ⟨u1, trivial⟩, fun q => absurd c6 q⟩⟩⟩⟩⟩⟩⟩, u3⟩
              · rw [if_neg c6, if_neg c6, is_w hw 16777216 24 (by decide) (by decide)]
                obtain ⟨t1, t2⟩ := trap_eq h.1 h.sg h.2.2.2.1 (k := 1) (by decide)
                have t3 : o_m_trap mt 1 3 8 4 := t1
                have t4 : Dn (N + 16) mt (cProcessor_take st 1) (m_trap mt 1 3 8 4) := t2.mono (by omega)
                refine ⟨⟨fun q => absurd q c0, fun _ => ⟨fun q => absurd q c1, fun _ => ⟨fun q => absurd q c2, fun _ => ⟨fun q => absurd q c3, fun _ => ⟨fun q => absurd q c4, fun _ => ⟨fun q => absurd q c5, fun _ => ⟨fun q => absurd q c6, fun _ => ⟨fun _ => ⟨t3, trivial⟩, fun _ => ⟨u1, trivial⟩⟩⟩⟩⟩⟩⟩⟩⟩, ?_⟩
                cases b24 : bt w 24
                · have n : ¬ (w >>> ((24 : Int32) &&& 31)) &&& 1 = 1 := ref_0 (k := 24) (by decide) b24
                  rw [if_neg n]
                  show Dn (N + 16) mt (if (0 : Int32) = 0 then _ else _) _
                  rw [if_pos rfl]
                  exact u3
                · have n : (w >>> ((24 : Int32) &&& 31)) &&& 1 = 1 := ref_1 (k := 24) (by decide) b24
                  rw [if_pos n]
                  show Dn (N + 16) mt (if (1 : Int32) = 0 then _ else _) _
                  rw [if_neg z]
                  exact t4
def soG (z c n v : Int32) (q : Nat) : Int32 := if q = 0 then z else if q = 1 then c else if q = 2 then n else if q = 3 then v else if q = 4 then (if c = 0 then 0 else if z = 0 then 1 else 0) else if q = 5 then (if n = v then 1 else 0) else if q = 6 then (if n = v then (if z = 0 then 1 else 0) else 0) else 1
theorem so_s1 : ∀ j, j < 16 → nI j >>> ((1 : Int32) &&& 31) = nI (j / 2) := by decide +kernel
theorem so_s2 : ∀ j, j < 16 → ushr (nI j) 1 = nI (j / 2) := by decide +kernel
theorem m_so (mt : CS) {j : Nat} (hj : j < 16) : m_isSo mt (nI j) = m_isSo_b160 mt (nI j) (soG (m_is mt 30) (m_is mt 29) (m_is mt 31) (m_is mt 28) (j / 2)) := by
  have hq : j / 2 < 8 := by omega
  unfold m_isSo m_isSo_b115 m_isSo_b116 m_isSo_b132 m_isSo_b151 m_isSo_b152
  rw [so_s1 j hj]
  generalize j / 2 = q at hq ⊢
  rcases (by omega : q = 0 ∨ q = 1 ∨ q = 2 ∨ q = 3 ∨ q = 4 ∨ q = 5 ∨ q = 6 ∨ q = 7) with rfl | rfl | rfl | rfl | rfl | rfl | rfl | rfl
  · rfl
  · rfl
  · rfl
  · rfl
  · show (if m_is mt 29 = 0 then m_isSo_b160 mt (nI j) 0 else if m_is mt 30 = 0 then m_isSo_b160 mt (nI j) 1 else m_isSo_b160 mt (nI j) 0) = m_isSo_b160 mt (nI j) (if m_is mt 29 = 0 then 0 else if m_is mt 30 = 0 then 1 else 0)
    by_cases a : m_is mt 29 = 0
    · rw [if_pos a, if_pos a]
    · rw [if_neg a, if_neg a]
      by_cases b : m_is mt 30 = 0
      · rw [if_pos b, if_pos b]
      · rw [if_neg b, if_neg b]
  · show (if m_is mt 31 = m_is mt 28 then m_isSo_b160 mt (nI j) 1 else m_isSo_b160 mt (nI j) 0) = m_isSo_b160 mt (nI j) (if m_is mt 31 = m_is mt 28 then 1 else 0)
    by_cases a : m_is mt 31 = m_is mt 28
    · rw [if_pos a, if_pos a]
    · rw [if_neg a, if_neg a]
  · show (if m_is mt 31 = m_is mt 28 then (if m_is mt 30 = 0 then m_isSo_b160 mt (nI j) 1 else m_isSo_b160 mt (nI j) 0) else m_isSo_b160 mt (nI j) 0) = m_isSo_b160 mt (nI j) (if m_is mt 31 = m_is mt 28 then (if m_is mt 30 = 0 then 1 else 0) else 0)
    by_cases a : m_is mt 31 = m_is mt 28
    · rw [if_pos a, if_pos a]
      by_cases b : m_is mt 30 = 0
      · rw [if_pos b, if_pos b]
      · rw [if_neg b, if_neg b]
    · rw [if_neg a, if_neg a]
  · rfl
theorem c_so {st mt : CS} (hs : SG st mt) {q : Nat} (hq : q < 8) : cProcessor_isEvenSo st (nI q) = soG (m_is mt 30) (m_is mt 29) (m_is mt 31) (m_is mt 28) q := by
  have z : ¬ (1 : Int32) = 0 := by decide
  have h30 : cRegisters_has st 1073741824 = m_is mt 30 := sg_has hs 30 (by decide) (by decide)
  have h29 : cRegisters_has st 536870912 = m_is mt 29 := sg_has hs 29 (by decide) (by decide)
  have h28 : cRegisters_has st 268435456 = m_is mt 28 := sg_has hs 28 (by decide) (by decide)
  have h31 : cRegisters_has st (-2147483648) = m_is mt 31 := by
    rw [show (-2147483648 : Int32) = nI (2 ^ 31) by decide]
    exact sg_has hs 31 (by decide) (by decide)
  unfold cProcessor_isEvenSo cProcessor_isNAsV
  rw [h30, h29, h28, h31]
  rcases (by omega : q = 0 ∨ q = 1 ∨ q = 2 ∨ q = 3 ∨ q = 4 ∨ q = 5 ∨ q = 6 ∨ q = 7) with rfl | rfl | rfl | rfl | rfl | rfl | rfl | rfl
  · rfl
  · rfl
  · rfl
  · rfl
  · rfl
  · rfl
  · show (if (if m_is mt 31 = m_is mt 28 then (1 : Int32) else 0) = 0 then (0 : Int32) else if m_is mt 30 = 0 then 1 else 0) = (if m_is mt 31 = m_is mt 28 then (if m_is mt 30 = 0 then 1 else 0) else 0)
    by_cases a : m_is mt 31 = m_is mt 28
    · rw [if_pos a, if_pos a, if_neg z]
    · rw [if_neg a, if_neg a, if_pos rfl]
  · rfl
theorem so_eq {st mt : CS} (hs : SG st mt) (w : Int32) : cProcessor_isSo st (ushr w 28) = m_isSo mt (ushr w 28) := by
  obtain ⟨j, hj, e⟩ : ∃ j, j < 16 ∧ ushr w 28 = nI j := by
    refine ⟨w.toBitVec.toNat / 2 ^ 28, ?_, ?_⟩
    · have := w.toBitVec.isLt
      omega
    · have u : ushr (nI w.toBitVec.toNat) 28 = nI (w.toBitVec.toNat / 2 ^ 28) := pk_ushrN w.toBitVec.isLt 28 28 (by decide)
      rw [nI_tn] at u
      exact u
  rw [e, m_so mt hj]
  unfold cProcessor_isSo cProcessor_isSo_b18 m_isSo_b160 m_isSo_b173
  rw [so_s2 j hj, c_so hs (by omega)]
