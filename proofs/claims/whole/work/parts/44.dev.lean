/-! PURE 4: count, look, the lines, the devices' words -/
theorem or_0 (x y : Int32) : x ||| y = 0 ↔ x = 0 ∧ y = 0 := by
  constructor
  · intro h
    have hb : ∀ i, i < 32 → bt x i = false ∧ bt y i = false := fun i _ => by
      have := congrArg (fun z => bt z i) h
      simp only [b_or, b_0, Bool.or_eq_false_iff] at this
      exact this
    exact ⟨b_ext fun i hi => by rw [(hb i hi).1, b_0], b_ext fun i hi => by rw [(hb i hi).2, b_0]⟩
  · rintro ⟨rfl, rfl⟩; rfl
theorem irq_eq {st mt : CS} (h : RInt st mt) : cLines_isIrq st = m_irqLine mt := by
  unfold cLines_isIrq m_irqLine m_irqLine_b24
  rw [h.1, h.2.1, h.2.2.2.1, h.2.2.2.2.1]
  by_cases e1 : m_statusA mt &&& gI mt 10 = 0
  · rw [if_pos e1]
    by_cases e2 : m_statusB mt &&& gI mt 11 = 0
    · rw [if_pos e2, if_pos ((or_0 _ _).mpr ⟨e1, e2⟩)]
    · rw [if_neg e2, if_neg (fun q => e2 ((or_0 _ _).mp q).2)]
  · rw [if_neg e1, if_neg (fun q => e1 ((or_0 _ _).mp q).1)]
theorem fiq_eq {st mt : CS} (h : RInt st mt) : cLines_isFiq st = m_fiqLine mt := by
  unfold cLines_isFiq m_fiqLine
  rw [h.2.2.1, h.2.2.2.2.2]
theorem irq_01 (mt : CS) : m_irqLine mt = 0 ∨ m_irqLine mt = 1 := by
  unfold m_irqLine m_irqLine_b24
  split
  · split
    · exact Or.inl rfl
    · exact Or.inr rfl
  · exact Or.inr rfl
theorem ROut.len {N : Nat} {st mt : CS} (h : ROut N st mt) : gL st 2 = gL mt 1 := by
  obtain ⟨n, -, e1, e2, -⟩ := h
  rw [e1, e2]
theorem sim_count : Sim_count Rel := by
  intro k st mt a _ h
  have hl := h.1.2.2.2.2.2.2.2.2.2.2.1.len
  obtain ⟨c1, c2, c3, c4, c5, c6, c7⟩ := h.1.2.2.2.2.2.2.2.2.2.2.2
  unfold cPageBoard_count m_count
  by_cases hw : m_within a 2 8 = 0
  · have eC : (if a < 2 then cPageBoard_count_b22 st a else if 8 < a then cPageBoard_count_b22 st a else cProcessor_trapsTaken st (a - 2)) = cPageBoard_count_b22 st a := by
      by_cases q : a < 2
      · rw [if_pos q]
      · rw [if_neg q, if_pos]
        exact Int32.not_le.mp (fun q2 => (within_iff _ _ _).mp hw ⟨Int32.not_lt.mp q, q2⟩)
    rw [eC, if_pos hw]
    refine ⟨by unfold o_m_count; exact ⟨fun _ => trivial, fun q => absurd hw q⟩, ?_⟩
    unfold cPageBoard_count_b22
    rw [c1, c2, c3, c4, c5, hl]
    by_cases a0 : a = 0
    · rw [if_pos a0, if_pos a0]; exact ⟨rfl, h.thrown 0⟩
    rw [if_neg a0, if_neg a0]
    by_cases a1 : a = 1
    · rw [if_pos a1, if_pos a1]; exact ⟨rfl, h.thrown 0⟩
    rw [if_neg a1, if_neg a1]
    by_cases a2 : a = 9
    · rw [if_pos a2, if_pos a2]; exact ⟨rfl, h.thrown 0⟩
    rw [if_neg a2, if_neg a2]
    by_cases a3 : a = 10
    · rw [if_pos a3, if_pos a3]; exact ⟨rfl, h.thrown 0⟩
    rw [if_neg a3, if_neg a3]
    by_cases a4 : a = 11
    · rw [if_pos a4, if_pos a4]; exact ⟨rfl, h.thrown 0⟩
    rw [if_neg a4, if_neg a4]
    by_cases a5 : a = 12
    · rw [if_pos a5, if_pos a5]; exact ⟨rfl, h.thrown 0⟩
    rw [if_neg a5, if_neg a5]
    exact ⟨rfl, h.thrown 0⟩
  · have hr : 2 ≤ a ∧ a ≤ 8 := Decidable.byContradiction (fun q => hw ((within_iff _ _ _).mpr q))
    obtain ⟨j, hj, rfl⟩ := rng_le (n := 8) (by decide) (Int32.le_trans (by decide) hr.1) hr.2
    have h2 : 2 ≤ j := (nI_leI (a := 2) (b := j) (by omega) (by omega)).mp hr.1
    have e1 : nI j - 2 = nI (j - 2) := pk_sub (b := 2) h2
    rw [if_neg (Int32.not_lt.mpr hr.1), if_neg (Int32.not_lt.mpr hr.2), if_neg hw]
    unfold cProcessor_trapsTaken
    refine ⟨?_, ?_, h.thrown 0⟩
    · unfold o_m_count
      rw [e1]
      exact ⟨fun _ => trivial, fun _ => ⟨vp_in_nI (by omega) (by decide), trivial⟩⟩
    · show gB st 0 _ = gB mt 0 _
      rw [e1, nand 3 rfl (by omega) (by omega), nI_clamp (by omega)]
      exact c6 _ (by omega)
theorem sim_look : Sim_look Rel := by
  intro k st mt a hk h
  have hS := h.1.2.2.2.2.2.2.2.2.1
  have hT := h.1.2.2.2.2.2.2.2.1
  have hD := h.1.2.2.2.2.2.2.1
  have hR := h.1.2.2.2.2.2.1
  have hE := h.1.2.2.1
  have hI := h.1.2.2.2.1
  obtain ⟨n, hn, f1, f2, f3⟩ := h.1.2.2.2.2.2.2.2.2.2.1
  have hn31 : n < 2 ^ 31 := by omega
  have hh := h.thrown 0
  unfold cPageBoard_look m_look
  by_cases hw : m_within a 16 31 = 0
  · have eC : (if a < 16 then cPageBoard_look_b24 st a else if 31 < a then cPageBoard_look_b24 st a else cScreen_colourOf st (a - 16)) = cPageBoard_look_b24 st a := by
      by_cases q : a < 16
      · rw [if_pos q]
      · rw [if_neg q, if_pos]
        exact Int32.not_le.mp (fun q2 => (within_iff _ _ _).mp hw ⟨Int32.not_lt.mp q, q2⟩)
    rw [eC, if_pos hw]
    have hO : o_m_look mt a := by
      unfold o_m_look o_m_look_b111 o_m_look_b125
      refine ⟨fun _ => ⟨fun _ => trivial, fun _ => ⟨fun _ => trivial, fun _ => ⟨fun _ => trivial, fun _ => ⟨fun q => ?_, fun _ => ⟨fun q => ?_, fun _ => ⟨fun q => ?_, fun _ => ⟨fun _ => trivial, fun _ => ⟨fun q => ?_, fun _ => ⟨fun q => ?_, fun _ => trivial⟩⟩⟩⟩⟩⟩⟩⟩⟩, fun q => absurd hw q⟩ <;> (rw [q]; exact ⟨by unfold vp_in; decide, trivial⟩)
    refine ⟨hO, ?_⟩
    unfold cPageBoard_look_b24
    by_cases a0 : a = 0
    · rw [if_pos a0, if_pos a0]; exact ⟨hS.2.1, hh⟩
    rw [if_neg a0, if_neg a0]
    by_cases a1 : a = 1
    · rw [if_pos a1, if_pos a1]; exact ⟨hS.2.2.2.2.2.1, hh⟩
    rw [if_neg a1, if_neg a1]
    by_cases a2 : a = 2
    · rw [if_pos a2, if_pos a2]; exact ⟨hE.2.2, hh⟩
    rw [if_neg a2, if_neg a2]
    by_cases a3 : a = 3
    · rw [if_pos a3, if_pos a3]; subst a3; exact ⟨hS.2.2.1, hh⟩
    rw [if_neg a3, if_neg a3]
    by_cases a4 : a = 4
    · rw [if_pos a4, if_pos a4]; subst a4; exact ⟨hS.2.2.2.1, hh⟩
    rw [if_neg a4, if_neg a4]
    by_cases a5 : a = 5
    · rw [if_pos a5, if_pos a5]; subst a5; exact ⟨hS.2.2.2.2.1, hh⟩
    rw [if_neg a5, if_neg a5]
    by_cases a6 : a = 6
    · rw [if_pos a6, if_pos a6]; exact ⟨hS.1, hh⟩
    rw [if_neg a6, if_neg a6]
    by_cases a7 : a = 7
    · rw [if_pos a7, if_pos a7]; subst a7; exact ⟨hT.2.1, hh⟩
    rw [if_neg a7, if_neg a7]
    by_cases a8 : a = 8
    · rw [if_pos a8, if_pos a8]; subst a8; exact ⟨hT.2.2.2.2.1, hh⟩
    rw [if_neg a8, if_neg a8]
    by_cases a9 : a = 9
    · rw [if_pos a9, if_pos a9]; exact ⟨hD.2.2.2.1, hh⟩
    rw [if_neg a9, if_neg a9]
    by_cases a10 : a = 10
    · rw [if_pos a10, if_pos a10]; exact ⟨hR.2.1, hh⟩
    rw [if_neg a10, if_neg a10]
    by_cases a11 : a = 11
    · rw [if_pos a11, if_pos a11]
      refine ⟨?_, hh⟩
      show gI st 30 = 20000 - (gL mt 0 - gL mt 0 / 20000 * 20000).toInt32
      rw [f3, f1, show (20000 : Int64) = lN 20000 from rfl, pk_lRem (by omega) (by omega) (by omega), lN_i]
      exact (pk_sub (a := 20000) (Nat.le_of_lt (Nat.mod_lt _ (by omega)))).symm
    rw [if_neg a11, if_neg a11]
    by_cases a12 : a = 12
    · rw [if_pos a12, if_pos a12, irq_eq hI]
      rcases irq_01 mt with e | e
      · rw [if_pos e, if_pos (show m_irqLine (sI mt 0 0) = 0 from e)]; exact ⟨rfl, hh⟩
      · have e' : ¬ m_irqLine mt = 0 := by rw [e]; decide
        rw [if_neg e', if_neg (show ¬ m_irqLine (sI mt 0 0) = 0 from e')]; exact ⟨rfl, hh⟩
    rw [if_neg a12, if_neg a12]
    by_cases a13 : a = 13
    · rw [if_pos a13, if_pos a13, fiq_eq hI]
      by_cases e : m_fiqLine mt = 0
      · rw [if_pos e, if_pos (show m_fiqLine (sI mt 0 0) = 0 from e)]; exact ⟨rfl, hh⟩
      · rw [if_neg e, if_neg (show ¬ m_fiqLine (sI mt 0 0) = 0 from e)]; exact ⟨rfl, hh⟩
    rw [if_neg a13, if_neg a13]
    exact ⟨rfl, hh⟩
  · have hr : 16 ≤ a ∧ a ≤ 31 := Decidable.byContradiction (fun q => hw ((within_iff _ _ _).mpr q))
    obtain ⟨j, hj, rfl⟩ := rng_le (n := 31) (by decide) (Int32.le_trans (by decide) hr.1) hr.2
    have h2 : 16 ≤ j := (nI_leI (a := 16) (b := j) (by omega) (by omega)).mp hr.1
    have e1 : nI j - 16 = nI (j - 16) := pk_sub (b := 16) h2
    rw [if_neg (Int32.not_lt.mpr hr.1), if_neg (Int32.not_lt.mpr hr.2), if_neg hw]
    unfold cScreen_colourOf
    refine ⟨?_, ?_, hh⟩
    · unfold o_m_look
      rw [e1]
      exact ⟨fun q => absurd q hw, fun _ => ⟨vp_in_nI (by omega) (by decide), trivial⟩⟩
    · show gA st 6 _ = gA mt 9 _
      rw [e1, nand 4 rfl (by omega) (by omega), nI_clamp (by omega)]
      exact hS.2.2.2.2.2.2.2.1 _ (by omega)
