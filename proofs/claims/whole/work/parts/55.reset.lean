/-! PURE 15: reset -/
theorem fill3_on (v : Int32) : ∀ n i (st : CS), i + n = 33 → i ≤ 32 → (∀ j, j < i → gA st 1 j = v) → ∃ S, cArrays_fill3_b5 n st v (nI i) 32 = some S ∧ Fr [] [] [1] st S ∧ ∀ j, j < 32 → gA S 1 j = v := by
  intro n
  induction n with
  | zero => intro i st h1 h2; omega
  | succ n ih =>
    intro i st h1 h2 hf
    simp only [cArrays_fill3_b5]
    rcases Nat.lt_or_ge i 32 with q | q
    · have c : ¬ (32 : Int32) ≤ nI i := nI_ge (b := 32) q (by decide)
      rw [if_neg c, nI_clamp (by omega), nI_1]
      obtain ⟨S, a1, a2, a3⟩ := ih (i + 1) (sA st 1 (upd (gA st 1) i v)) (by omega) (by omega) (by
        intro j hj
        show upd (gA st 1) i v j = v
        by_cases e : j = i
        · rw [e, pk_us]
        · rw [pk_un e, hf j (by omega)])
      exact ⟨S, a1, (Fr.sA _ _ _ _ _ _ (by decide)).tr a2, a3⟩
    · have c : (32 : Int32) ≤ nI i := nI_le (a := 32) q (by omega)
      rw [if_pos c]
      exact ⟨st, rfl, Fr.rf _ _ _ _, fun j hj => hf j (by omega)⟩
theorem fill3_is (st : CS) (v : Int32) : Fr [] [] [1] st (cArrays_fill3 st v) ∧ ∀ j, j < 32 → gA (cArrays_fill3 st v) 1 j = v := by
  obtain ⟨S, a1, a2, a3⟩ := fill3_on v 33 0 st (by omega) (by omega) (fun j hj => by omega)
  have e : cArrays_fill3 st v = S := by
    show (cArrays_fill3_b5 33 st v (nI 0) 32).getD st = S
    rw [a1]
    rfl
  rw [e]
  exact ⟨a2, a3⟩
theorem fill5_on (v : Int32) : ∀ n i (st : CS), i + n = 17 → i ≤ 16 → (∀ j, j < i → gA st 2 j = v) → ∃ S, cArrays_fill5_b5 n st v (nI i) 16 = some S ∧ Fr [] [] [2] st S ∧ ∀ j, j < 16 → gA S 2 j = v := by
  intro n
  induction n with
  | zero => intro i st h1 h2; omega
  | succ n ih =>
    intro i st h1 h2 hf
    simp only [cArrays_fill5_b5]
    rcases Nat.lt_or_ge i 16 with q | q
    · have c : ¬ (16 : Int32) ≤ nI i := nI_ge (b := 16) q (by decide)
      rw [if_neg c, nI_clamp (by omega), nI_1]
      obtain ⟨S, a1, a2, a3⟩ := ih (i + 1) (sA st 2 (upd (gA st 2) i v)) (by omega) (by omega) (by
        intro j hj
        show upd (gA st 2) i v j = v
        by_cases e : j = i
        · rw [e, pk_us]
        · rw [pk_un e, hf j (by omega)])
      exact ⟨S, a1, (Fr.sA _ _ _ _ _ _ (by decide)).tr a2, a3⟩
    · have c : (16 : Int32) ≤ nI i := nI_le (a := 16) q (by omega)
      rw [if_pos c]
      exact ⟨st, rfl, Fr.rf _ _ _ _, fun j hj => hf j (by omega)⟩
theorem fill5_is (st : CS) (v : Int32) : Fr [] [] [2] st (cArrays_fill5 st v) ∧ ∀ j, j < 16 → gA (cArrays_fill5 st v) 2 j = v := by
  obtain ⟨S, a1, a2, a3⟩ := fill5_on v 17 0 st (by omega) (by omega) (fun j hj => by omega)
  have e : cArrays_fill5 st v = S := by
    show (cArrays_fill5_b5 17 st v (nI 0) 16).getD st = S
    rw [a1]
    rfl
  rw [e]
  exact ⟨a2, a3⟩
theorem fill6_on (v : Int32) : ∀ n i (st : CS), i + n = 17 → i ≤ 16 → (∀ j, j < i → gA st 3 j = v) → ∃ S, cArrays_fill6_b5 n st v (nI i) 16 = some S ∧ Fr [] [] [3] st S ∧ ∀ j, j < 16 → gA S 3 j = v := by
  intro n
  induction n with
  | zero => intro i st h1 h2; omega
  | succ n ih =>
    intro i st h1 h2 hf
    simp only [cArrays_fill6_b5]
    rcases Nat.lt_or_ge i 16 with q | q
    · have c : ¬ (16 : Int32) ≤ nI i := nI_ge (b := 16) q (by decide)
      rw [if_neg c, nI_clamp (by omega), nI_1]
      obtain ⟨S, a1, a2, a3⟩ := ih (i + 1) (sA st 3 (upd (gA st 3) i v)) (by omega) (by omega) (by
        intro j hj
        show upd (gA st 3) i v j = v
        by_cases e : j = i
        · rw [e, pk_us]
        · rw [pk_un e, hf j (by omega)])
      exact ⟨S, a1, (Fr.sA _ _ _ _ _ _ (by decide)).tr a2, a3⟩
    · have c : (16 : Int32) ≤ nI i := nI_le (a := 16) q (by omega)
      rw [if_pos c]
      exact ⟨st, rfl, Fr.rf _ _ _ _, fun j hj => hf j (by omega)⟩
theorem fill6_is (st : CS) (v : Int32) : Fr [] [] [3] st (cArrays_fill6 st v) ∧ ∀ j, j < 16 → gA (cArrays_fill6 st v) 3 j = v := by
  obtain ⟨S, a1, a2, a3⟩ := fill6_on v 17 0 st (by omega) (by omega) (fun j hj => by omega)
  have e : cArrays_fill6 st v = S := by
    show (cArrays_fill6_b5 17 st v (nI 0) 16).getD st = S
    rw [a1]
    rfl
  rw [e]
  exact ⟨a2, a3⟩
theorem fill16_on (v : Int32) : ∀ n i (st : CS), i + n = 17 → i ≤ 16 → (∀ j, j < i → gA st 6 j = v) → ∃ S, cArrays_fill16_b5 n st v (nI i) 16 = some S ∧ Fr [] [] [6] st S ∧ ∀ j, j < 16 → gA S 6 j = v := by
  intro n
  induction n with
  | zero => intro i st h1 h2; omega
  | succ n ih =>
    intro i st h1 h2 hf
    simp only [cArrays_fill16_b5]
    rcases Nat.lt_or_ge i 16 with q | q
    · have c : ¬ (16 : Int32) ≤ nI i := nI_ge (b := 16) q (by decide)
      rw [if_neg c, nI_clamp (by omega), nI_1]
      obtain ⟨S, a1, a2, a3⟩ := ih (i + 1) (sA st 6 (upd (gA st 6) i v)) (by omega) (by omega) (by
        intro j hj
        show upd (gA st 6) i v j = v
        by_cases e : j = i
        · rw [e, pk_us]
        · rw [pk_un e, hf j (by omega)])
      exact ⟨S, a1, (Fr.sA _ _ _ _ _ _ (by decide)).tr a2, a3⟩
    · have c : (16 : Int32) ≤ nI i := nI_le (a := 16) q (by omega)
      rw [if_pos c]
      exact ⟨st, rfl, Fr.rf _ _ _ _, fun j hj => hf j (by omega)⟩
theorem fill16_is (st : CS) (v : Int32) : Fr [] [] [6] st (cArrays_fill16 st v) ∧ ∀ j, j < 16 → gA (cArrays_fill16 st v) 6 j = v := by
  obtain ⟨S, a1, a2, a3⟩ := fill16_on v 17 0 st (by omega) (by omega) (fun j hj => by omega)
  have e : cArrays_fill16 st v = S := by
    show (cArrays_fill16_b5 17 st v (nI 0) 16).getD st = S
    rw [a1]
    rfl
  rw [e]
  exact ⟨a2, a3⟩
theorem upd_to {f : Nat → Int32} {i : Nat} {v : Int32} (hf : ∀ j, j < i → f j = v) : ∀ j, j < i + 1 → upd f i v j = v := by
  intro j hj
  by_cases e : j = i
  · rw [e, pk_us]
  · rw [pk_un e, hf j (by omega)]
theorem upd_toF {f g : Nat → Int32} {i : Nat} {v : Int32} (hf : ∀ j, j < i → f j = g j) (hv : v = g i) : ∀ j, j < i + 1 → upd f i v j = g j := by
  intro j hj
  by_cases e : j = i
  · rw [e, pk_us, hv]
  · rw [pk_un e, hf j (by omega)]
theorem r173_on : ∀ n i (st : CS), i + n = 4 → i ≤ 3 → (∀ j, j < i → gA st 10 j = 0) → ∃ S, m_reset_b173 n st (nI i) = some ((sL (sI (sI (sI (sI (sI (sI (sI (sI (sI (sI (sI (sI (sI S 9 (0 : Int32)) 10 (0 : Int32)) 11 (0 : Int32)) 12 (0 : Int32)) 13 (0 : Int32)) 14 (0 : Int32)) 15 (0 : Int32)) 16 (0 : Int32)) 17 (0 : Int32)) 18 (0 : Int32)) 19 (0 : Int32)) 22 (0 : Int32)) 23 (0 : Int32)) 0 (0 : Int64))) ∧ (True → o_m_reset_b173 n st (nI i)) ∧ Fr [] [] [10] st S ∧ ∀ j, j < 3 → gA S 10 j = 0 := by
  intro n
  induction n with
  | zero => intro i st h1 h2; omega
  | succ n ih =>
    intro i st h1 h2 hf
    simp only [m_reset_b173, o_m_reset_b173]
    rcases Nat.lt_or_ge i 3 with q | q
    · have c : ¬ (3 : Int32) ≤ nI i := nI_ge (b := 3) q (by decide)
      rw [if_neg c, nI_clamp (by omega)]
      obtain ⟨S, a1, a2, a3, a4⟩ := ih (i + 1) (sA st 10 (upd (gA st 10) i 0)) (by omega) (by omega) (upd_to hf)
      refine ⟨S, ?_, fun o => ⟨fun z => absurd z c, fun _ => ⟨vp_in_nI q (by decide), ?_⟩⟩, (Fr.sA _ _ _ _ _ _ (by decide)).tr a3, a4⟩
      · rw [← a1, ← nI_1]
        rfl
      · have := a2 o
        rw [← nI_1] at this
        exact this
    · have c : (3 : Int32) ≤ nI i := nI_le (a := 3) q (by omega)
      rw [if_pos c]
      exact ⟨st, rfl, fun o => ⟨fun _ => o, fun z => absurd c z⟩, Fr.rf _ _ _ _, fun j hj => hf j (by omega)⟩
def num0 (j : Nat) : Int32 := if j = 0 then 0 else -1
theorem r110_on : ∀ n i (st : CS), i + n = 17 → i ≤ 16 → (∀ j, j < i → gA st 7 j = num0 j) → (∀ j, j < i → gA st 8 j = 0) → (∀ j, j < i → gA st 9 j = 0) → ∃ S, m_reset_b110 n st (nI i) = some (m_reset_b173t (sI (sI (sI (sI S 5 (0 : Int32)) 6 (0 : Int32)) 7 (0 : Int32)) 8 (0 : Int32)) (0 : Int32)) ∧ (o_m_reset_b173t (sI (sI (sI (sI S 5 (0 : Int32)) 6 (0 : Int32)) 7 (0 : Int32)) 8 (0 : Int32)) (0 : Int32) → o_m_reset_b110 n st (nI i)) ∧ Fr [] [] [7, 8, 9] st S ∧ (∀ j, j < 16 → gA S 7 j = num0 j) ∧ (∀ j, j < 16 → gA S 8 j = 0) ∧ (∀ j, j < 16 → gA S 9 j = 0) := by
  intro n
  induction n with
  | zero => intro i st h1 h2; omega
  | succ n ih =>
    intro i st h1 h2 h7 h8 h9
    simp only [m_reset_b110, o_m_reset_b110]
    rcases Nat.lt_or_ge i 16 with q | q
    · have c : ¬ (16 : Int32) ≤ nI i := nI_ge (b := 16) q (by decide)
      have step : ∀ v, v = num0 i → ∃ S, m_reset_b130 (m_reset_b110 n) st (nI i) (nI i) v = some (m_reset_b173t (sI (sI (sI (sI S 5 (0 : Int32)) 6 (0 : Int32)) 7 (0 : Int32)) 8 (0 : Int32)) (0 : Int32)) ∧ (o_m_reset_b173t (sI (sI (sI (sI S 5 (0 : Int32)) 6 (0 : Int32)) 7 (0 : Int32)) 8 (0 : Int32)) (0 : Int32) → o_m_reset_b130 (o_m_reset_b110 n) st (nI i) (nI i) v) ∧ Fr [] [] [7, 8, 9] st S ∧ (∀ j, j < 16 → gA S 7 j = num0 j) ∧ (∀ j, j < 16 → gA S 8 j = 0) ∧ (∀ j, j < 16 → gA S 9 j = 0) := by
        intro v hv
        obtain ⟨S, a1, a2, a3, a4⟩ := ih (i + 1) (sA (sA (sA st 7 (upd (gA st 7) i v)) 8 (upd (gA st 8) i 0)) 9 (upd (gA st 9) i 0)) (by omega) (by omega) (upd_toF h7 hv) (upd_to h8) (upd_to h9)
        unfold m_reset_b130 m_reset_b131 m_reset_b138 m_reset_b145 o_m_reset_b130 o_m_reset_b131 o_m_reset_b138 o_m_reset_b145
        rw [nI_clamp (by omega), nI_1]
        exact ⟨S, a1, fun o => ⟨vp_in_nI q (by decide), vp_in_nI q (by decide), vp_in_nI q (by decide), a2 o⟩, (((Fr.sA _ _ _ _ _ _ (by decide)).tr (Fr.sA _ _ _ _ _ _ (by decide))).tr (Fr.sA _ _ _ _ _ _ (by decide))).tr a3, a4⟩
      rw [if_neg c]
      by_cases z : i = 0
      · have z' : nI i = 0 := by rw [z]; rfl
        rw [if_pos z']
        obtain ⟨S, a1, a2, a3⟩ := step 0 (by rw [z]; rfl)
        exact ⟨S, a1, fun o => ⟨fun y => absurd y c, fun _ => ⟨fun _ => a2 o, fun y => absurd z' y⟩⟩, a3⟩
      · have z' : ¬ nI i = 0 := nI_ne0 (by omega) (by omega)
        rw [if_neg z']
        obtain ⟨S, a1, a2, a3⟩ := step (-1) (by unfold num0; rw [if_neg z])
        exact ⟨S, a1, fun o => ⟨fun y => absurd y c, fun _ => ⟨fun y => absurd y z', fun _ => a2 o⟩⟩, a3⟩
    · have c : (16 : Int32) ≤ nI i := nI_le (a := 16) q (by omega)
      rw [if_pos c]
      exact ⟨st, rfl, fun o => ⟨fun _ => o, fun z => absurd c z⟩, Fr.rf _ _ _ _, fun j hj => h7 j (by omega), fun j hj => h8 j (by omega), fun j hj => h9 j (by omega)⟩
theorem r49_on : ∀ n i (st : CS), i + n = 3 → i ≤ 2 → (∀ j, j < i → gA st 2 j = 0) → (∀ j, j < i → gA st 3 j = 0) → (∀ j, j < i → gA st 12 j = 0) → (∀ j, j < i → gA st 13 j = 0) → (∀ j, j < i → gA st 14 j = 0) → (∀ j, j < i → gA st 15 j = 0) → ∃ S, m_reset_b49 n st (nI i) = some (m_reset_b110t (sI S 1 (201326595 : Int32)) (0 : Int32)) ∧ (o_m_reset_b110t (sI S 1 (201326595 : Int32)) (0 : Int32) → o_m_reset_b49 n st (nI i)) ∧ Fr [] [] [2, 3, 12, 13, 14, 15] st S ∧ (∀ j, j < 2 → gA S 2 j = 0) ∧ (∀ j, j < 2 → gA S 3 j = 0) ∧ (∀ j, j < 2 → gA S 12 j = 0) ∧ (∀ j, j < 2 → gA S 13 j = 0) ∧ (∀ j, j < 2 → gA S 14 j = 0) ∧ (∀ j, j < 2 → gA S 15 j = 0) := by
  intro n
  induction n with
  | zero => intro i st h1 h2; omega
  | succ n ih =>
    intro i st h1 h2 g1 g2 g3 g4 g5 g6
    simp only [m_reset_b49, o_m_reset_b49]
    rcases Nat.lt_or_ge i 2 with q | q
    · have c : ¬ (2 : Int32) ≤ nI i := nI_ge (b := 2) q (by decide)
      obtain ⟨S, a1, a2, a3, a4⟩ := ih (i + 1) (sA (sA (sA (sA (sA (sA st 2 (upd (gA st 2) i 0)) 3 (upd (gA st 3) i 0)) 12 (upd (gA st 12) i 0)) 13 (upd (gA st 13) i 0)) 14 (upd (gA st 14) i 0)) 15 (upd (gA st 15) i 0)) (by omega) (by omega) (upd_to g1) (upd_to g2) (upd_to g3) (upd_to g4) (upd_to g5) (upd_to g6)
      unfold m_reset_b61 m_reset_b68 m_reset_b75 m_reset_b82 m_reset_b89 m_reset_b96 o_m_reset_b61 o_m_reset_b68 o_m_reset_b75 o_m_reset_b82 o_m_reset_b89 o_m_reset_b96
      rw [if_neg c, nI_clamp (by omega), nI_1]
      have v : vp_in (nI i) 2 := vp_in_nI q (by decide)
      exact ⟨S, a1, fun o => ⟨fun y => absurd y c, fun _ => ⟨v, v, v, v, v, v, a2 o⟩⟩, ((((((Fr.sA _ _ _ _ _ _ (by decide)).tr (Fr.sA _ _ _ _ _ _ (by decide))).tr (Fr.sA _ _ _ _ _ _ (by decide))).tr (Fr.sA _ _ _ _ _ _ (by decide))).tr (Fr.sA _ _ _ _ _ _ (by decide))).tr (Fr.sA _ _ _ _ _ _ (by decide))).tr a3, a4⟩
    · have c : (2 : Int32) ≤ nI i := nI_le (a := 2) q (by omega)
      rw [if_pos c]
      exact ⟨st, rfl, fun o => ⟨fun _ => o, fun z => absurd c z⟩, Fr.rf _ _ _ _, fun j hj => g1 j (by omega), fun j hj => g2 j (by omega), fun j hj => g3 j (by omega), fun j hj => g4 j (by omega), fun j hj => g5 j (by omega), fun j hj => g6 j (by omega)⟩
theorem r28_on : ∀ n i (st : CS), i + n = 8 → i ≤ 7 → (∀ j, j < i → gA st 1 j = 0) → ∃ S, m_reset_b28 n st (nI i) = some (m_reset_b49t S (0 : Int32)) ∧ (o_m_reset_b49t S (0 : Int32) → o_m_reset_b28 n st (nI i)) ∧ Fr [] [] [1] st S ∧ ∀ j, j < 7 → gA S 1 j = 0 := by
  intro n
  induction n with
  | zero => intro i st h1 h2; omega
  | succ n ih =>
    intro i st h1 h2 hf
    simp only [m_reset_b28, o_m_reset_b28]
    rcases Nat.lt_or_ge i 7 with q | q
    · have c : ¬ (7 : Int32) ≤ nI i := nI_ge (b := 7) q (by decide)
      rw [if_neg c, nI_clamp (by omega)]
      obtain ⟨S, a1, a2, a3, a4⟩ := ih (i + 1) (sA st 1 (upd (gA st 1) i 0)) (by omega) (by omega) (upd_to hf)
      refine ⟨S, ?_, fun o => ⟨fun z => absurd z c, fun _ => ⟨vp_in_nI q (by decide), ?_⟩⟩, (Fr.sA _ _ _ _ _ _ (by decide)).tr a3, a4⟩
      · rw [← a1, ← nI_1]
        rfl
      · have := a2 o
        rw [← nI_1] at this
        exact this
    · have c : (7 : Int32) ≤ nI i := nI_le (a := 7) q (by omega)
      rw [if_pos c]
      exact ⟨st, rfl, fun o => ⟨fun _ => o, fun z => absurd c z⟩, Fr.rf _ _ _ _, fun j hj => hf j (by omega)⟩
theorem r7_on : ∀ n i (st : CS), i + n = 16 → i ≤ 15 → (∀ j, j < i → gA st 0 j = 0) → ∃ S, m_reset_b7 n st (nI i) = some (m_reset_b28t S (0 : Int32)) ∧ (o_m_reset_b28t S (0 : Int32) → o_m_reset_b7 n st (nI i)) ∧ Fr [] [] [0] st S ∧ ∀ j, j < 15 → gA S 0 j = 0 := by
  intro n
  induction n with
  | zero => intro i st h1 h2; omega
  | succ n ih =>
    intro i st h1 h2 hf
    simp only [m_reset_b7, o_m_reset_b7]
    rcases Nat.lt_or_ge i 15 with q | q
    · have c : ¬ (15 : Int32) ≤ nI i := nI_ge (b := 15) q (by decide)
      rw [if_neg c, nI_clamp (by omega)]
      obtain ⟨S, a1, a2, a3, a4⟩ := ih (i + 1) (sA st 0 (upd (gA st 0) i 0)) (by omega) (by omega) (upd_to hf)
      refine ⟨S, ?_, fun o => ⟨fun z => absurd z c, fun _ => ⟨vp_in_nI q (by decide), ?_⟩⟩, (Fr.sA _ _ _ _ _ _ (by decide)).tr a3, a4⟩
      · rw [← a1, ← nI_1]
        rfl
      · have := a2 o
        rw [← nI_1] at this
        exact this
    · have c : (15 : Int32) ≤ nI i := nI_le (a := 15) q (by omega)
      rw [if_pos c]
      exact ⟨st, rfl, fun o => ⟨fun _ => o, fun z => absurd c z⟩, Fr.rf _ _ _ _, fun j hj => hf j (by omega)⟩
theorem reset_m (mt : CS) : o_m_reset mt ∧ ∃ S1 S2 S3 S4 S5, m_reset mt = (sL (sI (sI (sI (sI (sI (sI (sI (sI (sI (sI (sI (sI (sI S5 9 (0 : Int32)) 10 (0 : Int32)) 11 (0 : Int32)) 12 (0 : Int32)) 13 (0 : Int32)) 14 (0 : Int32)) 15 (0 : Int32)) 16 (0 : Int32)) 17 (0 : Int32)) 18 (0 : Int32)) 19 (0 : Int32)) 22 (0 : Int32)) 23 (0 : Int32)) 0 (0 : Int64)) ∧ Fr [] [] [0] (sI mt 0 0) S1 ∧ Fr [] [] [1] S1 S2 ∧ Fr [] [] [2, 3, 12, 13, 14, 15] S2 S3 ∧ Fr [] [] [7, 8, 9] (sI S3 1 201326595) S4 ∧ Fr [] [] [10] (sI (sI (sI (sI S4 5 0) 6 0) 7 0) 8 0) S5 ∧
    (∀ j, j < 15 → gA S1 0 j = 0) ∧ (∀ j, j < 7 → gA S2 1 j = 0) ∧ ((∀ j, j < 2 → gA S3 2 j = 0) ∧ (∀ j, j < 2 → gA S3 3 j = 0) ∧ (∀ j, j < 2 → gA S3 12 j = 0) ∧ (∀ j, j < 2 → gA S3 13 j = 0) ∧ (∀ j, j < 2 → gA S3 14 j = 0) ∧ (∀ j, j < 2 → gA S3 15 j = 0)) ∧ ((∀ j, j < 16 → gA S4 7 j = num0 j) ∧ (∀ j, j < 16 → gA S4 8 j = 0) ∧ (∀ j, j < 16 → gA S4 9 j = 0)) ∧ (∀ j, j < 3 → gA S5 10 j = 0) := by
  obtain ⟨S1, a1, a2, a3, a4⟩ := r7_on 16 0 (sI mt 0 0) (by omega) (by omega) (fun j hj => by omega)
  obtain ⟨S2, b1, b2, b3, b4⟩ := r28_on 8 0 S1 (by omega) (by omega) (fun j hj => by omega)
  obtain ⟨S3, c1, c2, c3, c4⟩ := r49_on 3 0 S2 (by omega) (by omega) (fun j hj => by omega) (fun j hj => by omega) (fun j hj => by omega) (fun j hj => by omega) (fun j hj => by omega) (fun j hj => by omega)
  obtain ⟨S4, d1, d2, d3, d4⟩ := r110_on 17 0 (sI S3 1 201326595) (by omega) (by omega) (fun j hj => by omega) (fun j hj => by omega) (fun j hj => by omega)
  obtain ⟨S5, e1, e2, e3, e4⟩ := r173_on 4 0 (sI (sI (sI (sI S4 5 0) 6 0) 7 0) 8 0) (by omega) (by omega) (fun j hj => by omega)
  have o5 : o_m_reset_b173t (sI (sI (sI (sI S4 5 0) 6 0) 7 0) 8 0) 0 := And.intro (e2 trivial) (Exists.intro _ e1)
  have o4 : o_m_reset_b110t (sI S3 1 201326595) 0 := And.intro (d2 o5) (Exists.intro _ d1)
  have o3 : o_m_reset_b49t S2 0 := And.intro (c2 o4) (Exists.intro _ c1)
  have o2 : o_m_reset_b28t S1 0 := And.intro (b2 o3) (Exists.intro _ b1)
  have o1 : o_m_reset_b7t (sI mt 0 0) 0 := And.intro (a2 o2) (Exists.intro _ a1)
  have f1 : m_reset mt = m_reset_b28t S1 0 := by
    have q : m_reset_b7 16 (sI mt 0 0) 0 = _ := a1
    unfold m_reset m_reset_b7t
    rw [q, Option.getD_some]
  have f2 : m_reset_b28t S1 0 = m_reset_b49t S2 0 := by
    have q : m_reset_b28 8 S1 0 = _ := b1
    unfold m_reset_b28t
    rw [q, Option.getD_some]
  have f3 : m_reset_b49t S2 0 = m_reset_b110t (sI S3 1 201326595) 0 := by
    have q : m_reset_b49 3 S2 0 = _ := c1
    unfold m_reset_b49t
    rw [q, Option.getD_some]
  have f4 : m_reset_b110t (sI S3 1 201326595) 0 = m_reset_b173t (sI (sI (sI (sI S4 5 0) 6 0) 7 0) 8 0) 0 := by
    have q : m_reset_b110 17 (sI S3 1 201326595) 0 = _ := d1
    unfold m_reset_b110t
    rw [q, Option.getD_some]
  have f5 : m_reset_b173t (sI (sI (sI (sI S4 5 0) 6 0) 7 0) 8 0) 0 = (sL (sI (sI (sI (sI (sI (sI (sI (sI (sI (sI (sI (sI (sI S5 9 (0 : Int32)) 10 (0 : Int32)) 11 (0 : Int32)) 12 (0 : Int32)) 13 (0 : Int32)) 14 (0 : Int32)) 15 (0 : Int32)) 16 (0 : Int32)) 17 (0 : Int32)) 18 (0 : Int32)) 19 (0 : Int32)) 22 (0 : Int32)) 23 (0 : Int32)) 0 (0 : Int64)) := by
    have q : m_reset_b173 4 (sI (sI (sI (sI S4 5 0) 6 0) 7 0) 8 0) 0 = _ := e1
    unfold m_reset_b173t
    rw [q, Option.getD_some]
  exact ⟨o1, S1, S2, S3, S4, S5, f1.trans (f2.trans (f3.trans (f4.trans f5))), a3, b3, c3, d3, e3, a4, b4, c4, d4, e4⟩
def RC (st D : CS) : Prop := ((∀ k, k ∈ [1, 5, 6, 7, 8, 9, 10, 11, 12, 16, 17, 18, 19, 20, 21, 22, 23, 24, 25, 26, 27, 28, 29] → gI D k = 0) ∧ gI D 2 = 128 ∧ gI D 3 = 64 ∧ gI D 4 = 128 ∧ gI D 30 = 20000 ∧ gI D 0 = gI st 0) ∧ ((∀ j, j < 32 → j ≠ 15 → gA D 1 j = 0) ∧ gA D 1 15 = 201326595 ∧ (∀ j, j < 16 → gA D 2 j = num0 j) ∧ (∀ j, j < 16 → gA D 3 j = 0) ∧ (∀ j, j < 16 → gA D 6 j = 0)) ∧ gA D 0 = gA st 0 ∧ gA D 4 = gA st 4 ∧ gA D 5 = gA st 5 ∧ gA D 7 = gA st 7 ∧ (∀ j, gL D j = gL st j) ∧ gB D 0 = gB st 0
def RM (mt M : CS) : Prop := ((∀ k, k ∈ [5, 6, 7, 8, 9, 10, 11, 12, 13, 14, 15, 16, 17, 18, 19, 22, 23] → gI M k = 0) ∧ gI M 1 = 201326595 ∧ gI M 20 = gI mt 20 ∧ gI M 21 = gI mt 21 ∧ gI M 24 = gI mt 24) ∧ ((∀ j, j < 15 → gA M 0 j = 0) ∧ (∀ j, j < 7 → gA M 1 j = 0) ∧ (∀ j, j < 2 → gA M 2 j = 0) ∧ (∀ j, j < 2 → gA M 3 j = 0) ∧ (∀ j, j < 2 → gA M 12 j = 0) ∧ (∀ j, j < 2 → gA M 13 j = 0) ∧ (∀ j, j < 2 → gA M 14 j = 0) ∧ (∀ j, j < 2 → gA M 15 j = 0) ∧ (∀ j, j < 16 → gA M 7 j = num0 j) ∧ (∀ j, j < 16 → gA M 8 j = 0) ∧ (∀ j, j < 16 → gA M 9 j = 0) ∧ (∀ j, j < 3 → gA M 10 j = 0)) ∧ gA M 5 = gA mt 5 ∧ gA M 6 = gA mt 6 ∧ gA M 11 = gA mt 11 ∧ gA M 16 = gA mt 16 ∧ gL M 0 = 0 ∧ (∀ j, j ≠ 0 → gL M j = gL mt j) ∧ gB M 0 = gB mt 0
theorem reset_M (mt : CS) : o_m_reset mt ∧ RM mt (m_reset mt) := by
  obtain ⟨o, S1, S2, S3, S4, S5, e, F1, F2, F3, F4, F5, v1, v2, ⟨v31, v32, v33, v34, v35, v36⟩, ⟨v41, v42, v43⟩, v5⟩ := reset_m mt
  refine ⟨o, ?_⟩
  have mA : ∀ j, j ∉ [0, 1, 2, 3, 7, 8, 9, 10, 12, 13, 14, 15] → gA S5 j = gA mt j := by
    intro j hj
    simp only [List.mem_cons, List.not_mem_nil, or_false, not_or] at hj
    obtain ⟨j0, j1, j2, j3, j7, j8, j9, j10, j12, j13, j14, j15⟩ := hj
    rw [F5.2.2.1 j (by simp [j10])]
    show gA S4 j = _
    rw [F4.2.2.1 j (by simp [j7, j8, j9])]
    show gA S3 j = _
    rw [F3.2.2.1 j (by simp [j2, j3, j12, j13, j14, j15]), F2.2.2.1 j (by simp [j1]), F1.2.2.1 j (by simp [j0])]
    rfl
  have mL : ∀ j, gL S5 j = gL mt j := by
    intro j
    rw [F5.2.1 j List.not_mem_nil]
    show gL S4 j = _
    rw [F4.2.1 j List.not_mem_nil]
    show gL S3 j = _
    rw [F3.2.1 j List.not_mem_nil, F2.2.1 j List.not_mem_nil, F1.2.1 j List.not_mem_nil]
    rfl
  have mB : ∀ j, gB S5 j = gB mt j := by
    intro j
    rw [F5.2.2.2 j]
    show gB S4 j = _
    rw [F4.2.2.2 j]
    show gB S3 j = _
    rw [F3.2.2.2 j, F2.2.2.2 j, F1.2.2.2 j]
    rfl
  have mI4 : ∀ j, gI S4 j = gI (sI S3 1 201326595) j := fun j => F4.1 j List.not_mem_nil
  have mI3 : ∀ j, gI S3 j = gI (sI mt 0 0) j := fun j => by rw [F3.1 j List.not_mem_nil, F2.1 j List.not_mem_nil, F1.1 j List.not_mem_nil]
  have mI5 : ∀ j, gI S5 j = gI (sI (sI (sI (sI S4 5 0) 6 0) 7 0) 8 0) j := fun j => F5.1 j List.not_mem_nil
  have w7 : ∀ j, j ∉ [10] → gA S5 j = gA S4 j := fun j hj => F5.2.2.1 j hj
  have w3 : ∀ j, j ∉ [7, 8, 9, 10] → gA S5 j = gA S3 j := by
    intro j hj
    simp only [List.mem_cons, List.not_mem_nil, or_false, not_or] at hj
    rw [w7 j (by simp [hj.2.2.2])]
    exact F4.2.2.1 j (by simp [hj.1, hj.2.1, hj.2.2.1])
  have hi : ∀ k, k = 1 ∨ k = 20 ∨ k = 21 ∨ k = 24 → gI S5 k = gI (sI (sI mt 0 0) 1 201326595) k := by
    intro k hk
    rw [mI5 k]
    have e1 : gI (sI (sI (sI (sI S4 5 0) 6 0) 7 0) 8 0) k = gI S4 k := by
      rw [gI_sI, if_neg (by omega), gI_sI, if_neg (by omega), gI_sI, if_neg (by omega), gI_sI, if_neg (by omega)]
    rw [e1, mI4 k, gI_sI, gI_sI, mI3 k]
  have z5 : ∀ k, k = 5 ∨ k = 6 ∨ k = 7 ∨ k = 8 → gI S5 k = 0 := by
    intro k hk
    rw [mI5 k]
    rcases hk with rfl | rfl | rfl | rfl <;> rfl
  rw [e]
  refine ⟨⟨?_, hi 1 (by omega), hi 20 (by omega), hi 21 (by omega), hi 24 (by omega)⟩, ⟨?_, ?_, ?_, ?_, ?_, ?_, ?_, ?_, ?_, ?_, ?_, v5⟩, mA 5 (by decide), mA 6 (by decide), mA 11 (by decide), mA 16 (by decide), rfl, ?_, mB 0⟩
  · intro k hk
    simp only [List.mem_cons, List.not_mem_nil, or_false] at hk
    rcases hk with rfl | rfl | rfl | rfl | rfl | rfl | rfl | rfl | rfl | rfl | rfl | rfl | rfl | rfl | rfl | rfl | rfl
    · exact z5 5 (by omega)
    · exact z5 6 (by omega)
    · exact z5 7 (by omega)
    · exact z5 8 (by omega)
    all_goals rfl
  · intro j hj; show gA S5 0 j = 0; rw [w3 0 (by decide), F3.2.2.1 0 (by decide), F2.2.2.1 0 (by decide)]; exact v1 j hj
  · intro j hj; show gA S5 1 j = 0; rw [w3 1 (by decide), F3.2.2.1 1 (by decide)]; exact v2 j hj
  · intro j hj; show gA S5 2 j = 0; rw [w3 2 (by decide)]; exact v31 j hj
  · intro j hj; show gA S5 3 j = 0; rw [w3 3 (by decide)]; exact v32 j hj
  · intro j hj; show gA S5 12 j = 0; rw [w3 12 (by decide)]; exact v33 j hj
  · intro j hj; show gA S5 13 j = 0; rw [w3 13 (by decide)]; exact v34 j hj
  · intro j hj; show gA S5 14 j = 0; rw [w3 14 (by decide)]; exact v35 j hj
  · intro j hj; show gA S5 15 j = 0; rw [w3 15 (by decide)]; exact v36 j hj
  · intro j hj; show gA S5 7 j = _; rw [w7 7 (by decide)]; exact v41 j hj
  · intro j hj; show gA S5 8 j = 0; rw [w7 8 (by decide)]; exact v42 j hj
  · intro j hj; show gA S5 9 j = 0; rw [w7 9 (by decide)]; exact v43 j hj
  · intro j hj
    rw [gL_sL, if_neg hj]
    exact mL j
theorem rc_hc (st : CS) : cPageBoard_beginAnew st = cScreen_begin_b8 (cArrays_fill16 (cController_begin (cDisk_begin (cSerial_begin (cLines_begin (cEntries_begin_b16 (cArrays_fill6 (cArrays_fill5 (cRegisters_begin_b8 (cArrays_fill3 st 0)) (-1)) 0)))))) 0) := by
  unfold cPageBoard_beginAnew cPageBoard_beginAnew_b7 cPageBoard_beginAnew_b14 cPageBoard_beginAnew_b21 cPageBoard_beginAnew_b28 cPageBoard_beginAnew_b35 cPageBoard_beginAnew_b42 cScreen_begin cEntries_begin cEntries_begin_b8 cRegisters_begin
  with_reducible rfl
theorem rc_g1 (S : CS) : Fr [2, 3, 4, 5, 6, 7, 8, 9, 10, 11, 12, 16, 17, 18, 19, 20, 21, 22, 23] [] [] S (cLines_begin S) := by
  unfold cLines_begin
  exact (((((Fr.sI _ _ _ _ _ _ (by decide)).tr (Fr.sI _ _ _ _ _ _ (by decide))).tr (Fr.sI _ _ _ _ _ _ (by decide))).tr (Fr.sI _ _ _ _ _ _ (by decide))).tr (Fr.sI _ _ _ _ _ _ (by decide))).tr (Fr.sI _ _ _ _ _ _ (by decide))
theorem rc_g2 (S : CS) : Fr [2, 3, 4, 5, 6, 7, 8, 9, 10, 11, 12, 16, 17, 18, 19, 20, 21, 22, 23] [] [] S (cSerial_begin S) := by
  unfold cSerial_begin
  exact (Fr.sI _ _ _ _ _ _ (by decide)).tr (Fr.sI _ _ _ _ _ _ (by decide))
theorem rc_g3 (S : CS) : Fr [2, 3, 4, 5, 6, 7, 8, 9, 10, 11, 12, 16, 17, 18, 19, 20, 21, 22, 23] [] [] S (cDisk_begin S) := by
  unfold cDisk_begin
  exact (((Fr.sI _ _ _ _ _ _ (by decide)).tr (Fr.sI _ _ _ _ _ _ (by decide))).tr (Fr.sI _ _ _ _ _ _ (by decide))).tr (Fr.sI _ _ _ _ _ _ (by decide))
theorem rc_g6 (S : CS) : Fr [2, 3, 4, 5, 6, 7, 8, 9, 10, 11, 12, 16, 17, 18, 19, 20, 21, 22, 23] [] [] S (cController_begin S) := by
  unfold cController_begin cController_begin_b7 cController_begin_b14 cTimer_begin0 cTimer_begin1
  exact ((((((Fr.sI _ _ _ _ _ _ (by decide)).tr (Fr.sI _ _ _ _ _ _ (by decide))).tr (Fr.sI _ _ _ _ _ _ (by decide))).tr (Fr.sI _ _ _ _ _ _ (by decide))).tr (Fr.sI _ _ _ _ _ _ (by decide))).tr (Fr.sI _ _ _ _ _ _ (by decide))).tr (Fr.sI _ _ _ _ _ _ (by decide))
theorem rc_FB (S : CS) : Fr [2, 3, 4, 5, 6, 7, 8, 9, 10, 11, 12, 16, 17, 18, 19, 20, 21, 22, 23] [] [] S (cController_begin (cDisk_begin (cSerial_begin (cLines_begin S)))) := (((rc_g1 S).tr (rc_g2 _)).tr (rc_g3 _)).tr (rc_g6 _)
theorem rc_v (S : CS) : (∀ k, k ∈ [5, 6, 7, 8, 9, 10, 11, 12, 16, 17, 18, 19, 20, 21, 22, 23] → gI (cController_begin (cDisk_begin (cSerial_begin (cLines_begin S)))) k = 0) ∧ gI (cController_begin (cDisk_begin (cSerial_begin (cLines_begin S)))) 2 = 128 ∧ gI (cController_begin (cDisk_begin (cSerial_begin (cLines_begin S)))) 3 = 64 ∧ gI (cController_begin (cDisk_begin (cSerial_begin (cLines_begin S)))) 4 = 128 := by
  refine ⟨?_, rfl, rfl, rfl⟩
  intro k hk
  simp only [List.mem_cons, List.not_mem_nil, or_false] at hk
  rcases hk with rfl | rfl | rfl | rfl | rfl | rfl | rfl | rfl | rfl | rfl | rfl | rfl | rfl | rfl | rfl | rfl <;> rfl
theorem rc_hE (R : CS) : cEntries_begin_b16 R = sA (sI R 1 0) 2 (upd (gA R 2) 0 0) := rfl
theorem rc_hR (R : CS) : cRegisters_begin_b8 R = sA R 1 (upd (gA R 1) 15 201326595) := rfl
theorem rc_hD (R : CS) : Fr [24, 25, 26, 27, 28, 29, 30] [] [] R (cScreen_begin_b8 R) := by
  unfold cScreen_begin_b8
  exact ((((((Fr.sI _ _ _ _ _ _ (by decide)).tr (Fr.sI _ _ _ _ _ _ (by decide))).tr (Fr.sI _ _ _ _ _ _ (by decide))).tr (Fr.sI _ _ _ _ _ _ (by decide))).tr (Fr.sI _ _ _ _ _ _ (by decide))).tr (Fr.sI _ _ _ _ _ _ (by decide))).tr (Fr.sI _ _ _ _ _ _ (by decide))
theorem rc_D0 (R : CS) : (∀ k, k ∈ [24, 25, 26, 27, 28, 29] → gI (cScreen_begin_b8 R) k = 0) ∧ gI (cScreen_begin_b8 R) 30 = 20000 := by
  refine ⟨?_, rfl⟩
  intro k hk
  simp only [List.mem_cons, List.not_mem_nil, or_false] at hk
  rcases hk with rfl | rfl | rfl | rfl | rfl | rfl <;> rfl
theorem rc_tail {st R1 R2 R3 X R4 D : CS} (f1 : Fr [] [] [1] st R1) (x1 : ∀ j, j < 32 → gA R1 1 j = 0) (f2 : Fr [] [] [2] (sA R1 1 (upd (gA R1 1) 15 201326595)) R2) (x2 : ∀ j, j < 16 → gA R2 2 j = -1) (f3 : Fr [] [] [3] R2 R3) (x3 : ∀ j, j < 16 → gA R3 3 j = 0)
    (hF : Fr [2, 3, 4, 5, 6, 7, 8, 9, 10, 11, 12, 16, 17, 18, 19, 20, 21, 22, 23] [] [] (sA (sI R3 1 0) 2 (upd (gA R3 2) 0 0)) X) (vX : ∀ k, k ∈ [5, 6, 7, 8, 9, 10, 11, 12, 16, 17, 18, 19, 20, 21, 22, 23] → gI X k = 0) (v2 : gI X 2 = 128) (v3 : gI X 3 = 64) (v4 : gI X 4 = 128) (f4 : Fr [] [] [6] X R4) (x4 : ∀ j, j < 16 → gA R4 6 j = 0) (hD : Fr [24, 25, 26, 27, 28, 29, 30] [] [] R4 D) (d0 : ∀ k, k ∈ [24, 25, 26, 27, 28, 29] → gI D k = 0) (d30 : gI D 30 = 20000) : RC st D := by
  have cI : ∀ j, gI R4 j = gI X j := fun j => f4.1 j List.not_mem_nil
  have cI3 : ∀ j, gI R3 j = gI st j := fun j => by rw [f3.1 j List.not_mem_nil, f2.1 j List.not_mem_nil]; exact f1.1 j List.not_mem_nil
  have e2 : ∀ j, gL (sA R1 1 (upd (gA R1 1) 15 201326595)) j = gL R1 j := fun j => rfl
  have e3 : ∀ j, gL (sA (sI R3 1 0) 2 (upd (gA R3 2) 0 0)) j = gL R3 j := fun j => rfl
  have k2 : ∀ j, gB (sA R1 1 (upd (gA R1 1) 15 201326595)) j = gB R1 j := fun j => rfl
  have k3 : ∀ j, gB (sA (sI R3 1 0) 2 (upd (gA R3 2) 0 0)) j = gB R3 j := fun j => rfl
  have cL : ∀ j, gL D j = gL st j := fun j => by
    rw [hD.2.1 j List.not_mem_nil, f4.2.1 j List.not_mem_nil, hF.2.1 j List.not_mem_nil, e3, f3.2.1 j List.not_mem_nil, f2.2.1 j List.not_mem_nil, e2, f1.2.1 j List.not_mem_nil]
  have cB : ∀ j, gB D j = gB st j := fun j => by
    rw [hD.2.2.2 j, f4.2.2.2 j, hF.2.2.2 j, k3, f3.2.2.2 j, f2.2.2.2 j, k2, f1.2.2.2 j]
  have eA : ∀ j, gA (sA (sI R3 1 0) 2 (upd (gA R3 2) 0 0)) j = (if j = 2 then upd (gA R3 2) 0 0 else gA R3 j) := fun j => rfl
  have cA4 : ∀ j, j ∉ [6] → gA D j = (if j = 2 then upd (gA R3 2) 0 0 else gA R3 j) := fun j hj => by
    rw [hD.2.2.1 j List.not_mem_nil, f4.2.2.1 j hj, hF.2.2.1 j List.not_mem_nil, eA]
  have cA : ∀ j, j ∉ [1, 2, 3, 6] → gA D j = gA st j := by
    intro j hj
    simp only [List.mem_cons, List.not_mem_nil, or_false, not_or] at hj
    obtain ⟨j1, j2, j3, j6⟩ := hj
    rw [cA4 j (by simp [j6]), if_neg j2, f3.2.2.1 j (by simp [j3]), f2.2.2.1 j (by simp [j2]), gA_sA, if_neg j1]
    exact f1.2.2.1 j (by simp [j1])
  have a1 : gA D 1 = upd (gA R1 1) 15 201326595 := by
    rw [cA4 1 (by decide), if_neg (by decide), f3.2.2.1 1 (by decide), f2.2.2.1 1 (by decide), gA_sA, if_pos rfl]
  have v1 : gI X 1 = 0 := by rw [hF.1 1 (by decide)]; rfl
  have v0 : gI X 0 = gI R3 0 := by rw [hF.1 0 (by decide)]; rfl
  refine ⟨⟨?_, ?_, ?_, ?_, d30, ?_⟩, ⟨?_, ?_, ?_, ?_, ?_⟩, cA 0 (by decide), cA 4 (by decide), cA 5 (by decide), cA 7 (by decide), cL, cB 0⟩
  · intro k hk
    simp only [List.mem_cons, List.not_mem_nil, or_false] at hk
    by_cases c1 : k = 1
    · rw [c1, hD.1 1 (by decide), cI 1, v1]
    · by_cases c2 : k < 24
      · rw [hD.1 k (by simp only [List.mem_cons, List.not_mem_nil, or_false]; omega), cI k]
        exact vX k (by simp only [List.mem_cons, List.not_mem_nil, or_false]; omega)
      · exact d0 k (by simp only [List.mem_cons, List.not_mem_nil, or_false]; omega)
  · rw [hD.1 2 (by decide), cI, v2]
  · rw [hD.1 3 (by decide), cI, v3]
  · rw [hD.1 4 (by decide), cI, v4]
  · rw [hD.1 0 (by decide), cI, v0, cI3]
  · intro j hj hn
    rw [a1, pk_un hn]; exact x1 j hj
  · rw [a1, pk_us]
  · intro j hj
    rw [cA4 2 (by decide), if_pos rfl]
    unfold num0
    by_cases z : j = 0
    · rw [if_pos z, z, pk_us]
    · rw [if_neg z, pk_un z, f3.2.2.1 2 (by decide)]
      exact x2 j hj
  · intro j hj
    rw [cA4 3 (by decide), if_neg (by decide)]
    exact x3 j hj
  · intro j hj
    rw [hD.2.2.1 6 List.not_mem_nil]
    exact x4 j hj
theorem reset_C (st : CS) : RC st (cPageBoard_beginAnew st) := by
  obtain ⟨f1, x1⟩ := fill3_is st 0
  rw [rc_hc, rc_hR, rc_hE]
  obtain ⟨f2, x2⟩ := fill5_is (sA (cArrays_fill3 st 0) 1 (upd (gA (cArrays_fill3 st 0) 1) 15 201326595)) (-1)
  obtain ⟨f3, x3⟩ := fill6_is (cArrays_fill5 (sA (cArrays_fill3 st 0) 1 (upd (gA (cArrays_fill3 st 0) 1) 15 201326595)) (-1)) 0
  generalize cArrays_fill6 (cArrays_fill5 (sA (cArrays_fill3 st 0) 1 (upd (gA (cArrays_fill3 st 0) 1) 15 201326595)) (-1)) 0 = R3 at f3 x3 ⊢
  generalize cArrays_fill5 (sA (cArrays_fill3 st 0) 1 (upd (gA (cArrays_fill3 st 0) 1) 15 201326595)) (-1) = R2 at f2 x2 f3
  generalize cArrays_fill3 st 0 = R1 at f1 x1 f2
  have hF := rc_FB (sA (sI R3 1 0) 2 (upd (gA R3 2) 0 0))
  obtain ⟨w1, w2, w3, w4⟩ := rc_v (sA (sI R3 1 0) 2 (upd (gA R3 2) 0 0))
  generalize cController_begin (cDisk_begin (cSerial_begin (cLines_begin (sA (sI R3 1 0) 2 (upd (gA R3 2) 0 0))))) = X at hF w1 w2 w3 w4 ⊢
  obtain ⟨f4, x4⟩ := fill16_is X 0
  generalize cArrays_fill16 X 0 = R4 at f4 x4 ⊢
  have hD := rc_hD R4
  obtain ⟨d0, d30⟩ := rc_D0 R4
  generalize cScreen_begin_b8 R4 = D at hD d0 d30 ⊢
  exact rc_tail f1 x1 f2 x2 f3 x3 hF w1 w2 w3 w4 f4 x4 hD d0 d30
theorem reset_core {N : Nat} {st mt : CS} (hM : RMem st mt) (hp : ∀ j, j < 2048 → gA st 7 j = gA mt 11 j) (hO : ROut N st mt) (hC : RCnt st mt) (h20 : rng (gI mt 20) 16) (h21 : rng (gI mt 21) 16) : o_m_reset mt ∧ RR N (cPageBoard_beginAnew st) (m_reset mt) := by
  obtain ⟨o, hm⟩ := reset_M mt
  have hc := reset_C st
  refine ⟨o, ?_⟩
  clear o
  generalize cPageBoard_beginAnew st = D at hc ⊢
  generalize m_reset mt = M at hm ⊢
  obtain ⟨⟨c0, c2, c3, c4, c30, cS⟩, ⟨a1, a15, a2, a3, a6⟩, A0, A4, A5, A7, cL, cB⟩ := hc
  obtain ⟨⟨m0, m1, m20, m21, m24⟩, ⟨b0, b1, b2, b3, b12, b13, b14, b15, b7, b8, b9, b10⟩, B5, B6, B11, B16, l0, mL, mB⟩ := hm
  obtain ⟨w, w1, w2, w3, w4⟩ := hO
  obtain ⟨q1, q2, q3, q4, q5, q6, q7⟩ := hC
  have R0 : ∀ n, 0 < n → rng 0 n := fun n hn => ⟨0, hn, rfl⟩
  refine ⟨⟨⟨?_, ?_, ?_, ?_⟩, ⟨?_, ?_⟩, ⟨?_, ?_, ?_⟩, ⟨?_, ?_, ?_, ?_, ?_, ?_⟩, ⟨?_, ?_, ?_, ?_, ?_, ?_⟩, ⟨?_, ?_, ?_⟩, ⟨?_, ?_, ?_, ?_, ?_, ?_, ?_, ?_, ?_, ?_⟩, ⟨?_, ?_, ?_, ?_, ?_, ?_, ?_⟩, ⟨?_, ?_, ?_, ?_, ?_, ?_, ?_, ?_, ?_⟩, ⟨0, by omega, l0, ?_, ?_⟩, ⟨w, w1, ?_, ?_, ?_⟩, ⟨?_, ?_, ?_, ?_, ?_, ?_, ?_⟩⟩, ?_⟩
  · intro j hj; rw [a1 j (by omega) (by omega), b0 j hj]
  · intro j hj; rw [a1 (16 + j) (by omega) (by omega), b1 j hj]
  · intro j hj; rw [a1 (23 + j) (by omega) (by omega), b2 j hj]
  · intro j hj; rw [a1 (25 + j) (by omega) (by omega), b3 j hj]
  · intro j hj; rw [A0, B5]; exact hM.1 j hj
  · intro j hj; rw [A5, B6]; exact hM.2 j hj
  · intro j hj; rw [a2 j hj, b7 j hj]
  · intro j hj; rw [a3 j hj, b8 j hj]
  · rw [c0 1 (by decide), m0 8 (by decide)]
  · rw [c2, sA_eq, b12 0 (by omega), b12 1 (by omega), m0 9 (by decide)]; decide
  · rw [c3, m_statusB_eq, m0 23 (by decide), m0 15 (by decide), m0 14 (by decide)]; decide
  · rw [c4, m_statusF_eq, m0 23 (by decide)]; decide
  · rw [c0 5 (by decide), m0 10 (by decide)]
  · rw [c0 6 (by decide), m0 11 (by decide)]
  · rw [c0 7 (by decide), m0 12 (by decide)]
  · exact Or.inl (m0 9 (by decide))
  · exact Or.inl (b12 0 (by omega))
  · exact Or.inl (b12 1 (by omega))
  · exact Or.inl (m0 14 (by decide))
  · exact Or.inl (m0 22 (by decide))
  · exact Or.inl (m0 23 (by decide))
  · rw [c0 8 (by decide), m0 13 (by decide)]
  · rw [c0 9 (by decide), m0 15 (by decide)]
  · rw [m0 15 (by decide)]; exact R0 _ (by decide)
  · rw [c0 10 (by decide), m0 16 (by decide)]
  · rw [c0 11 (by decide), m0 17 (by decide)]
  · rw [c0 12 (by decide), m0 22 (by decide)]
  · rw [c0 16 (by decide), m0 18 (by decide)]
  · rw [m0 16 (by decide)]; exact R0 _ (by decide)
  · rw [m0 17 (by decide)]; exact R0 _ (by decide)
  · rw [m0 18 (by decide)]; exact R0 _ (by decide)
  · rw [m20]; exact h20
  · rw [m21]; exact h21
  · intro z; exact absurd (m0 18 (by decide)) z
  · rw [c0 18 (by decide), b13 0 (by omega)]
  · rw [c0 19 (by decide), b14 0 (by omega)]
  · rw [c0 20 (by decide), b15 0 (by omega)]
  · rw [c0 21 (by decide), b13 1 (by omega)]
  · rw [c0 22 (by decide), b14 1 (by omega)]
  · rw [c0 23 (by decide), b15 1 (by omega)]
  · intro t ht; rw [b13 t ht, b14 t ht, b15 t ht]; exact ⟨R0 _ (by decide), R0 _ (by decide), R0 _ (by decide)⟩
  · rw [c0 24 (by decide), m0 5 (by decide)]
  · rw [c0 25 (by decide), m0 6 (by decide)]
  · rw [c0 26 (by decide), b10 0 (by omega)]
  · rw [c0 27 (by decide), b10 1 (by omega)]
  · rw [c0 28 (by decide), b10 2 (by omega)]
  · rw [c0 29 (by decide), m0 7 (by decide)]
  · rw [m0 6 (by decide)]; exact R0 _ (by decide)
  · intro j hj; rw [a6 j hj, b9 j hj]
  · intro j hj; rw [A7, B11]; exact hp j hj
  · rw [c0 17 (by decide)]; rfl
  · rw [c30]; rfl
  · rw [mL 1 (by decide)]; exact w2
  · rw [cL 2]; exact w3
  · intro i y1 y2; rw [A4, B16]; exact w4 i y1 y2
  · rw [cL 0, mL 2 (by decide)]; exact q1
  · rw [cL 1, mL 3 (by decide)]; exact q2
  · rw [cL 3, mL 6 (by decide)]; exact q3
  · rw [cL 4, mL 4 (by decide)]; exact q4
  · rw [cL 5, mL 5 (by decide)]; exact q5
  · intro j hj; rw [cB, mB]; exact q6 j hj
  · rw [cS, m24]; exact q7
  · rw [a15, m1]
theorem sim_reset : Sim_reset Rel := by
  intro k st mt hk h
  obtain ⟨⟨-, h2, -, -, -, -, h7, -, h9, -, h11, h12⟩, -⟩ := h
  obtain ⟨a, b⟩ := reset_core h2 h9.2.2.2.2.2.2.2.2 h11 h12 h7.2.2.2.2.2.2.2.1 h7.2.2.2.2.2.2.2.2.1
  exact ⟨a, Rel_of b⟩
theorem rel_begin : Rel 0 (cPageBoard_beginAnew c0) (m_reset m0) ∧ o_m_reset m0 := by
  obtain ⟨a, b⟩ := reset_core (N := 0 * 2000000) (st := c0) (mt := m0) ⟨fun _ _ => rfl, fun _ _ => rfl⟩ (fun _ _ => rfl) ⟨0, by omega, rfl, rfl, fun i hi => by omega⟩ ⟨rfl, rfl, rfl, rfl, rfl, fun _ _ => rfl, rfl⟩ ⟨0, by omega, rfl⟩ ⟨0, by omega, rfl⟩
  exact ⟨b, a⟩
