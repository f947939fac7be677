/-! PURE 5: the devices' words -/
theorem and_hi (j n : Nat) (m : Int32) (hm : ∀ i, i < 32 → bt m i = decide (n ≤ i)) : nI j &&& m = nI (j / 2 ^ n * 2 ^ n) := by
  refine b_ext fun i hi => ?_
  rw [b_and, b_nI _ hi, b_nI _ hi, hm i hi, Nat.testBit_mul_two_pow, Nat.testBit_div_two_pow]
  by_cases c : n ≤ i
  · simp [c, show n + (i - n) = i by omega]
  · simp [c]
theorem m32 : ∀ i, i < 32 → bt (-32) i = decide (5 ≤ i) := by decide +kernel
theorem m4 : ∀ i, i < 32 → bt (-4) i = decide (2 ≤ i) := by decide +kernel
theorem ofC {j : Nat} (hj : j < 1048576) : cBus_isOfController (nI j) = 0 ↔ ¬ (524288 ≤ j ∧ j < 524320) := by
  unfold cBus_isOfController
  rw [and_hi j 5 (-32) m32]
  by_cases c : j / 2 ^ 5 * 2 ^ 5 = 524288
  · rw [if_pos (by rw [c]; rfl)]
    constructor
    · intro q; exact absurd q (by decide)
    · intro q; omega
  · rw [if_neg (show ¬ nI (j / 2 ^ 5 * 2 ^ 5) = (524288 : Int32) from fun q => c ((nI_eq (a := j / 2 ^ 5 * 2 ^ 5) (b := 524288) (by omega) (by omega)).mp q))]
    constructor
    · intro _; omega
    · intro _; rfl
theorem ofD {j : Nat} (hj : j < 1048576) : cBus_isOfDisk (nI j) = 0 ↔ ¬ (16384 ≤ j ∧ j < 16388) := by
  unfold cBus_isOfDisk
  rw [and_hi j 2 (-4) m4]
  by_cases c : j / 2 ^ 2 * 2 ^ 2 = 16384
  · rw [if_pos (by rw [c]; rfl)]
    constructor
    · intro q; exact absurd q (by decide)
    · intro q; omega
  · rw [if_neg (show ¬ nI (j / 2 ^ 2 * 2 ^ 2) = (16384 : Int32) from fun q => c ((nI_eq (a := j / 2 ^ 2 * 2 ^ 2) (b := 16384) (by omega) (by omega)).mp q))]
    constructor
    · intro _; omega
    · intro _; rfl
theorem tix {y : Int32} (q : ¬ m_within y 16 23 = 0) : ∃ i, 16 ≤ i ∧ i ≤ 23 ∧ y = nI i ∧ (y - 16) >>> ((2 : Int32) &&& 31) = nI ((i - 16) / 4) := by
  have hr : 16 ≤ y ∧ y ≤ 23 := Decidable.byContradiction (fun c => q ((within_iff _ _ _).mpr c))
  obtain ⟨j, hj, rfl⟩ := rng_le (n := 23) (by decide) (Int32.le_trans (by decide) hr.1) hr.2
  have h2 : 16 ≤ j := (nI_leI (a := 16) (b := j) (by omega) (by omega)).mp hr.1
  refine ⟨j, h2, by omega, rfl, ?_⟩
  rw [show (nI j - 16 : Int32) = nI (j - 16) from pk_sub (b := 16) h2, pk_shrN (by omega) _ 2 (by decide)]
theorem tix_in {y : Int32} (q : ¬ m_within y 16 23 = 0) : vp_in ((y - 16) >>> ((2 : Int32) &&& 31)) 2 := by
  obtain ⟨i, h1, h2, -, e⟩ := tix q
  rw [e]
  exact vp_in_nI (by omega) (by decide)
theorem o_val (mt : CS) (x : Int32) : o_m_value mt x := by
  unfold o_m_value
  refine ⟨fun _ => trivial, fun _ => ⟨fun _ => trivial, fun _ => ⟨fun _ => trivial, fun _ => ⟨fun _ => trivial, fun q => ?_⟩⟩⟩⟩
  have := tix_in q
  exact ⟨fun _ => ⟨this, trivial⟩, fun _ => ⟨fun _ => ⟨this, trivial⟩, fun _ => trivial⟩⟩
theorem value_far (mt : CS) (x : Int32) (h1 : ¬ x = 16384) (h2 : ¬ x = 16385) (h3 : ¬ x = 16386) (hy : ∀ c, c < 32 → ¬ x - 524288 = nI c) : m_value mt x = 0 := by
  unfold m_value
  have w : m_within (x - 524288) 16 23 = 0 := Decidable.byContradiction (fun q => by
    obtain ⟨i, -, h, e, -⟩ := tix q
    exact hy i (by omega) e)
  rw [if_neg h1, if_neg h2, if_neg h3, if_pos w, if_neg (show ¬ x - 524288 = (1 : Int32) from hy 1 (by omega)), if_neg (show ¬ x - 524288 = (4 : Int32) from hy 4 (by omega)), if_neg (show ¬ x - 524288 = (5 : Int32) from hy 5 (by omega)), if_neg (show ¬ x - 524288 = (6 : Int32) from hy 6 (by omega)), if_neg (show ¬ x - 524288 = (8 : Int32) from hy 8 (by omega)), if_neg (show ¬ x - 524288 = (9 : Int32) from hy 9 (by omega)), if_neg (show ¬ x - 524288 = (10 : Int32) from hy 10 (by omega)), if_neg (show ¬ x - 524288 = (12 : Int32) from hy 12 (by omega)), if_neg (show ¬ x - 524288 = (13 : Int32) from hy 13 (by omega)), if_neg (show ¬ x - 524288 = (14 : Int32) from hy 14 (by omega))]
theorem sub_small {j : Nat} (hj : j < 1048576) (hn : ¬ (524288 ≤ j ∧ j < 524320)) : ∀ c, c < 32 → ¬ nI j - 524288 = nI c := by
  intro c hc q
  rcases Nat.lt_or_ge j 524288 with h | h
  · have : nI j - nI 524288 < 0 := pk_sneg (by omega) h
    rw [show nI j - nI 524288 = nI c from q] at this
    exact nI_pos (by omega) this
  · have e : nI j - 524288 = nI (j - 524288) := pk_sub (b := 524288) h
    rw [e] at q
    have := (nI_eq (by omega) (by omega)).mp q
    omega
theorem sh8 {x : Int32} (h : rng x 65536) : ushr x 8 = x >>> ((8 : Int32) &&& 31) := by
  obtain ⟨j, hj, rfl⟩ := h
  rw [pk_shrN (by omega) _ 8 (by decide)]
  exact pk_ushrN (by omega) 8 8 (by decide)
theorem ctl_eq {st mt : CS} (h4 : RInt st mt) (h6 : RSer st mt) (h8 : RTim st mt) {i : Nat} (hi : i < 32) : cController_read st (nI i) = (if m_within (nI i) 16 23 = 0 then (if nI i = 1 then gI mt 13 else if nI i = 4 then m_statusA mt else if nI i = 5 then m_statusA mt &&& gI mt 10 else if nI i = 6 then gI mt 10 else if nI i = 8 then m_statusB mt else if nI i = 9 then m_statusB mt &&& gI mt 11 else if nI i = 10 then gI mt 11 else if nI i = 12 then m_statusF mt else if nI i = 13 then m_statusF mt &&& gI mt 12 else if nI i = 14 then gI mt 12 else 0) else if (nI i &&& 3) = 0 then (gA mt 15 ((nI i - 16) >>> ((2 : Int32) &&& 31)).toNatClampNeg) &&& 255 else if (nI i &&& 3) = 1 then (gA mt 15 ((nI i - 16) >>> ((2 : Int32) &&& 31)).toNatClampNeg) >>> ((8 : Int32) &&& 31) else 0) := by
  rcases (by omega : i = 0 ∨ i = 1 ∨ i = 2 ∨ i = 3 ∨ i = 4 ∨ i = 5 ∨ i = 6 ∨ i = 7 ∨ i = 8 ∨ i = 9 ∨ i = 10 ∨ i = 11 ∨ i = 12 ∨ i = 13 ∨ i = 14 ∨ i = 15 ∨ i = 16 ∨ i = 17 ∨ i = 18 ∨ i = 19 ∨ i = 20 ∨ i = 21 ∨ i = 22 ∨ i = 23 ∨ i = 24 ∨ i = 25 ∨ i = 26 ∨ i = 27 ∨ i = 28 ∨ i = 29 ∨ i = 30 ∨ i = 31) with rfl | rfl | rfl | rfl | rfl | rfl | rfl | rfl | rfl | rfl | rfl | rfl | rfl | rfl | rfl | rfl | rfl | rfl | rfl | rfl | rfl | rfl | rfl | rfl | rfl | rfl | rfl | rfl | rfl | rfl | rfl | rfl
  · exact rfl
  · exact h6.1
  · exact rfl
  · exact rfl
  · exact h4.1
  · exact (by show gI st 2 &&& gI st 5 = m_statusA mt &&& gI mt 10; rw [h4.1, h4.2.2.2.1])
  · exact h4.2.2.2.1
  · exact rfl
  · exact h4.2.1
  · exact (by show gI st 3 &&& gI st 6 = m_statusB mt &&& gI mt 11; rw [h4.2.1, h4.2.2.2.2.1])
  · exact h4.2.2.2.2.1
  · exact rfl
  · exact h4.2.2.1
  · exact (by show gI st 4 &&& gI st 7 = m_statusF mt &&& gI mt 12; rw [h4.2.2.1, h4.2.2.2.2.2])
  · exact h4.2.2.2.2.2
  · exact rfl
  · exact (by show gI st 20 &&& 255 = gA mt 15 0 &&& 255; rw [h8.2.2.1])
  · exact (by show ushr (gI st 20) 8 = gA mt 15 0 >>> (8 &&& 31); rw [h8.2.2.1]; exact sh8 (h8.2.2.2.2.2.2 0 (by omega)).2.2)
  · exact rfl
  · exact rfl
  · exact (by show gI st 23 &&& 255 = gA mt 15 1 &&& 255; rw [h8.2.2.2.2.2.1])
  · exact (by show ushr (gI st 23) 8 = gA mt 15 1 >>> (8 &&& 31); rw [h8.2.2.2.2.2.1]; exact sh8 (h8.2.2.2.2.2.2 1 (by omega)).2.2)
  · exact rfl
  · exact rfl
  · exact rfl
  · exact rfl
  · exact rfl
  · exact rfl
  · exact rfl
  · exact rfl
  · exact rfl
  · exact rfl
theorem value_eq {N : Nat} {st mt : CS} (h : RK N st mt) {j : Nat} (hj : j < 1048576) : cBus_deviceWord st (nI j) = m_value mt (nI j) := by
  obtain ⟨h1, h2, h3, h4, h5, h6, h7, h8, h9, h10, h11, h12⟩ := h
  unfold cBus_deviceWord
  by_cases c : 524288 ≤ j ∧ j < 524320
  · rw [if_neg (fun q => (ofC hj).mp q c)]
    have e1 : nI j &&& 31 = nI (j - 524288) := by
      rw [pk_andN (by omega) 5 rfl, show j % 2 ^ 5 = j - 524288 by omega]
    have e2 : nI j - 524288 = nI (j - 524288) := pk_sub (b := 524288) c.1
    have n1 : ¬ nI j = 16384 := fun q => by have := (nI_eq (a := j) (b := 16384) (by omega) (by omega)).mp q; omega
    have n2 : ¬ nI j = 16385 := fun q => by have := (nI_eq (a := j) (b := 16385) (by omega) (by omega)).mp q; omega
    have n3 : ¬ nI j = 16386 := fun q => by have := (nI_eq (a := j) (b := 16386) (by omega) (by omega)).mp q; omega
    unfold m_value
    rw [e1, if_neg n1, if_neg n2, if_neg n3, e2]
    exact ctl_eq h4 h6 h8 (by omega)
  · rw [if_pos ((ofC hj).mpr c)]
    by_cases d : 16384 ≤ j ∧ j < 16388
    · rw [if_neg (fun q => (ofD hj).mp q d)]
      rcases (by omega : j = 16384 ∨ j = 16385 ∨ j = 16386 ∨ j = 16387) with rfl | rfl | rfl | rfl
      · exact h7.1
      · exact h7.2.1
      · show (if gI st 16 ≤ 0 then (if gI st 12 = 0 then (0 : Int32) else 2) else 1) = (if gI mt 18 ≤ 0 then (if gI mt 22 = 0 then (0 : Int32) else 2) else 1)
        rw [h7.2.2.2.1, h7.2.2.1]
      · exact (value_far mt (nI 16387) (by decide) (by decide) (by decide) (sub_small hj c)).symm
    · rw [if_pos ((ofD hj).mpr d)]
      refine (value_far mt (nI j) ?_ ?_ ?_ (sub_small hj c)).symm
      · exact fun q => by have := (nI_eq (a := j) (b := 16384) (by omega) (by omega)).mp q; omega
      · exact fun q => by have := (nI_eq (a := j) (b := 16385) (by omega) (by omega)).mp q; omega
      · exact fun q => by have := (nI_eq (a := j) (b := 16386) (by omega) (by omega)).mp q; omega
theorem sim_device : Sim_device Rel := by
  intro k st mt a _ h
  unfold cPageBoard_device m_device
  rcases rt a 1048575 1048576 1048575 with ⟨j, hj, rfl, e0, e1, e2, -⟩ | ⟨e1, e2⟩
  · rw [if_neg e0, if_pos e2, if_neg e1]
    refine ⟨?_, ?_, h.thrown 0⟩
    · unfold o_m_device
      exact ⟨fun _ => trivial, fun _ => ⟨o_val _ _, trivial⟩⟩
    · exact value_eq (mt := sI mt 0 0) (h.1.thrown 0) (by omega)
  · have eC : (if a < 0 then (-1 : Int32) else if a < 1048576 then cBus_deviceWord st a else -1) = -1 := by
      rcases e2 with q | ⟨q, q2, -⟩
      · rw [if_pos q]
      · rw [if_neg q, if_neg q2]
    rw [eC, if_pos e1]
    refine ⟨?_, rfl, h.thrown 0⟩
    unfold o_m_device
    exact ⟨fun _ => trivial, fun q => absurd e1 q⟩
