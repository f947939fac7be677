/-! PURE 3: registers; count; look -/
def slN (i j : Nat) : Nat := if j = 15 then 15 else if i = 1 ∧ 8 ≤ j then j + 8 else if i = 2 ∧ 13 ≤ j then j + 10 else if i = 3 ∧ 13 ≤ j then j + 12 else j
def ownN (i j : Nat) : Bool := (i == 1 && 8 ≤ j && j < 15) || (1 < i && (j == 13 || j == 14))
theorem slot_eq : ∀ i, i < 4 → ∀ j, j < 16 → (cRegisters_slot (nI i) (nI j)).toNatClampNeg = slN i j := by decide +kernel
theorem own_eq : ∀ i, i < 4 → ∀ j, j < 16 → m_isOwn (nI i) (nI j) = (bif ownN i j then 1 else 0) := by decide +kernel
theorem nI_n15 {j : Nat} (hj : j < 15) : ¬ nI j = 15 := fun q => by have := (nI_eq (a := j) (b := 15) (by omega) (by omega)).mp q; omega
theorem get_eq {st mt : CS} (h : RReg st mt) {i j : Nat} (hi : i < 4) (hj : j < 15) : cRegisters_of st (nI i) (nI j) = m_get mt (nI i) (nI j) ∧ o_m_get mt (nI i) (nI j) := by
  have h15 := nI_n15 hj
  unfold cRegisters_of m_get o_m_get
  rw [slot_eq i hi j (by omega), if_neg h15, own_eq i hi j (by omega)]
  have c8 : 8 ≤ j → nI j - 8 = nI (j - 8) := fun q => pk_sub (b := 8) q
  have c13 : 13 ≤ j → nI j - 13 = nI (j - 13) := fun q => pk_sub (b := 13) q
  rcases (by omega : i = 0 ∨ i = 1 ∨ i = 2 ∨ i = 3) with rfl | rfl | rfl | rfl
  · have e1 : ownN 0 j = false := by simp [ownN]
    have e2 : slN 0 j = j := by unfold slN; rw [if_neg (by omega), if_neg (by omega), if_neg (by omega), if_neg (by omega)]
    rw [e1, e2]
    refine ⟨?_, fun q => absurd q h15, fun _ => ⟨fun _ => ⟨vp_in_nI hj (by decide), trivial⟩, fun q => absurd rfl q⟩⟩
    show gA st 1 j = gA mt 0 (nI j).toNatClampNeg
    rw [nI_clamp (by omega)]
    exact h.1 j hj
  · rcases Nat.lt_or_ge j 8 with q | q
    · have e1 : ownN 1 j = false := by simp [ownN]; omega
      have e2 : slN 1 j = j := by unfold slN; rw [if_neg (by omega), if_neg (by omega), if_neg (by omega), if_neg (by omega)]
      rw [e1, e2]
      refine ⟨?_, fun q => absurd q h15, fun _ => ⟨fun _ => ⟨vp_in_nI hj (by decide), trivial⟩, fun q => absurd rfl q⟩⟩
      show gA st 1 j = gA mt 0 (nI j).toNatClampNeg
      rw [nI_clamp (by omega)]
      exact h.1 j hj
    · have e1 : ownN 1 j = true := by simp [ownN]; omega
      have e2 : slN 1 j = 16 + (j - 8) := by unfold slN; rw [if_neg (by omega), if_pos (by omega)]; omega
      rw [e1, e2, c8 q]
      refine ⟨?_, fun q => absurd q h15, fun _ => ⟨fun q => absurd q (by decide), fun _ => ⟨fun _ => ⟨vp_in_nI (by omega) (by decide), trivial⟩, fun q => absurd rfl q⟩⟩⟩
      show gA st 1 (16 + (j - 8)) = gA mt 1 (nI (j - 8)).toNatClampNeg
      rw [nI_clamp (by omega)]
      exact h.2.1 (j - 8) (by omega)
  · rcases Nat.lt_or_ge j 13 with q | q
    · have e1 : ownN 2 j = false := by simp [ownN]; omega
      have e2 : slN 2 j = j := by unfold slN; rw [if_neg (by omega), if_neg (by omega), if_neg (by omega), if_neg (by omega)]
      rw [e1, e2]
      refine ⟨?_, fun q => absurd q h15, fun _ => ⟨fun _ => ⟨vp_in_nI hj (by decide), trivial⟩, fun q => absurd rfl q⟩⟩
      show gA st 1 j = gA mt 0 (nI j).toNatClampNeg
      rw [nI_clamp (by omega)]
      exact h.1 j hj
    · have e1 : ownN 2 j = true := by simp [ownN]; omega
      have e2 : slN 2 j = 23 + (j - 13) := by unfold slN; rw [if_neg (by omega), if_neg (by omega), if_pos (by omega)]; omega
      rw [e1, e2, c13 q]
      refine ⟨?_, fun q => absurd q h15, fun _ => ⟨fun q => absurd q (by decide), fun _ => ⟨fun q => absurd q (by decide), fun _ => ⟨fun _ => ⟨vp_in_nI (by omega) (by decide), trivial⟩, fun q => absurd rfl q⟩⟩⟩⟩
      show gA st 1 (23 + (j - 13)) = gA mt 2 (nI (j - 13)).toNatClampNeg
      rw [nI_clamp (by omega)]
      exact h.2.2.1 (j - 13) (by omega)
  · rcases Nat.lt_or_ge j 13 with q | q
    · have e1 : ownN 3 j = false := by simp [ownN]; omega
      have e2 : slN 3 j = j := by unfold slN; rw [if_neg (by omega), if_neg (by omega), if_neg (by omega), if_neg (by omega)]
      rw [e1, e2]
      refine ⟨?_, fun q => absurd q h15, fun _ => ⟨fun _ => ⟨vp_in_nI hj (by decide), trivial⟩, fun q => absurd rfl q⟩⟩
      show gA st 1 j = gA mt 0 (nI j).toNatClampNeg
      rw [nI_clamp (by omega)]
      exact h.1 j hj
    · have e1 : ownN 3 j = true := by simp [ownN]; omega
      have e2 : slN 3 j = 25 + (j - 13) := by unfold slN; rw [if_neg (by omega), if_neg (by omega), if_neg (by omega), if_pos (by omega)]; omega
      rw [e1, e2, c13 q]
      refine ⟨?_, fun q => absurd q h15, fun _ => ⟨fun q => absurd q (by decide), fun _ => ⟨fun q => absurd q (by decide), fun _ => ⟨fun q => absurd q (by decide), fun _ => ⟨vp_in_nI (by omega) (by decide), trivial⟩⟩⟩⟩⟩
      show gA st 1 (25 + (j - 13)) = gA mt 3 (nI (j - 13)).toNatClampNeg
      rw [nI_clamp (by omega)]
      exact h.2.2.2 (j - 13) (by omega)
/-- what m_give does, by the bank -/
theorem give_is (mt : CS) {i j : Nat} (hi : i < 4) (hj : j < 15) (v : Int32) : o_m_give mt (nI i) (nI j) v ∧
    ((slN i j = j ∧ m_give mt (nI i) (nI j) v = sA mt 0 (upd (gA mt 0) j v)) ∨
     (8 ≤ j ∧ slN i j = 16 + (j - 8) ∧ m_give mt (nI i) (nI j) v = sA mt 1 (upd (gA mt 1) (j - 8) v)) ∨
     (13 ≤ j ∧ slN i j = 23 + (j - 13) ∧ m_give mt (nI i) (nI j) v = sA mt 2 (upd (gA mt 2) (j - 13) v)) ∨
     (13 ≤ j ∧ slN i j = 25 + (j - 13) ∧ m_give mt (nI i) (nI j) v = sA mt 3 (upd (gA mt 3) (j - 13) v))) := by
  have h15 := nI_n15 hj
  have hO : o_m_give mt (nI i) (nI j) v := (get_eq (st := (mt.1, mt.2.1, fun k => if k = 1 then (fun x => if x < 15 then gA mt 0 x else if x < 23 then gA mt 1 (x - 16) else if x < 25 then gA mt 2 (x - 23) else gA mt 3 (x - 25)) else mt.2.2.1 k, mt.2.2.2)) (mt := mt) ⟨fun x hx => if_pos hx, fun x hx => by
      show (if 16 + x < 15 then _ else if 16 + x < 23 then _ else _) = _
      rw [if_neg (by omega), if_pos (by omega), show 16 + x - 16 = x by omega], fun x hx => by
      show (if 23 + x < 15 then _ else if 23 + x < 23 then _ else if 23 + x < 25 then _ else _) = _
      rw [if_neg (by omega), if_neg (by omega), if_pos (by omega), show 23 + x - 23 = x by omega], fun x hx => by
      show (if 25 + x < 15 then _ else if 25 + x < 23 then _ else if 25 + x < 25 then _ else _) = _
      rw [if_neg (by omega), if_neg (by omega), if_neg (by omega), show 25 + x - 25 = x by omega]⟩ hi hj).2
  refine ⟨hO, ?_⟩
  unfold m_give
  rw [if_neg h15, own_eq i hi j (by omega)]
  have c8 : 8 ≤ j → nI j - 8 = nI (j - 8) := fun q => pk_sub (b := 8) q
  have c13 : 13 ≤ j → nI j - 13 = nI (j - 13) := fun q => pk_sub (b := 13) q
  have cl : (nI j).toNatClampNeg = j := nI_clamp (by omega)
  have e0 : ∀ i, ¬ (i = 1 ∧ 8 ≤ j) → ¬ (i = 2 ∧ 13 ≤ j) → ¬ (i = 3 ∧ 13 ≤ j) → slN i j = j := fun i a b c => by unfold slN; rw [if_neg (by omega), if_neg a, if_neg b, if_neg c]
  rcases (by omega : i = 0 ∨ i = 1 ∨ i = 2 ∨ i = 3) with rfl | rfl | rfl | rfl
  · left
    have e1 : ownN 0 j = false := by simp [ownN]
    rw [e1, cl]
    exact ⟨e0 0 (by omega) (by omega) (by omega), rfl⟩
  · rcases Nat.lt_or_ge j 8 with q | q
    · left
      have e1 : ownN 1 j = false := by simp [ownN]; omega
      rw [e1, cl]
      exact ⟨e0 1 (by omega) (by omega) (by omega), rfl⟩
    · right; left
      have e1 : ownN 1 j = true := by simp [ownN]; omega
      rw [e1, c8 q, nI_clamp (n := j - 8) (by omega)]
      exact ⟨q, by unfold slN; rw [if_neg (by omega), if_pos (by omega)]; omega, rfl⟩
  · rcases Nat.lt_or_ge j 13 with q | q
    · left
      have e1 : ownN 2 j = false := by simp [ownN]; omega
      rw [e1, cl]
      exact ⟨e0 2 (by omega) (by omega) (by omega), rfl⟩
    · right; right; left
      have e1 : ownN 2 j = true := by simp [ownN]; omega
      rw [e1, c13 q, nI_clamp (n := j - 13) (by omega)]
      exact ⟨q, by unfold slN; rw [if_neg (by omega), if_neg (by omega), if_pos (by omega)]; omega, rfl⟩
  · rcases Nat.lt_or_ge j 13 with q | q
    · left
      have e1 : ownN 3 j = false := by simp [ownN]; omega
      rw [e1, cl]
      exact ⟨e0 3 (by omega) (by omega) (by omega), rfl⟩
    · right; right; right
      have e1 : ownN 3 j = true := by simp [ownN]; omega
      rw [e1, c13 q, nI_clamp (n := j - 13) (by omega)]
      exact ⟨q, by unfold slN; rw [if_neg (by omega), if_neg (by omega), if_neg (by omega), if_pos (by omega)]; omega, rfl⟩
theorem upd_sh {f g : Nat → Int32} {a n k : Nat} {v : Int32} (h : ∀ x, x < n → f (a + x) = g x) : ∀ x, x < n → upd f (a + k) v (a + x) = upd g k v x := by
  intro x hx
  by_cases e : x = k
  · subst e; rw [pk_us, pk_us]
  · rw [pk_un e, pk_un (by omega), h x hx]
theorem upd_off {f g : Nat → Int32} {a n s : Nat} {v : Int32} (hs : s < a ∨ a + n ≤ s) (h : ∀ x, x < n → f (a + x) = g x) : ∀ x, x < n → upd f s v (a + x) = g x := by
  intro x hx
  rw [pk_un (by omega), h x hx]
theorem upd_off0 {f g : Nat → Int32} {n s : Nat} {v : Int32} (hs : n ≤ s) (h : ∀ x, x < n → f x = g x) : ∀ x, x < n → upd f s v x = g x := by
  intro x hx
  rw [pk_un (by omega), h x hx]
/-- a register but R15 is given a value, on both sides -/
theorem give_RK {N : Nat} {st mt : CS} (h : RK N st mt) {i j : Nat} (hi : i < 4) (hj : j < 15) (v : Int32) : o_m_give mt (nI i) (nI j) v ∧ RK N (cRegisters_become st (nI i) (nI j) v) (m_give mt (nI i) (nI j) v) ∧ gA (cRegisters_become st (nI i) (nI j) v) 1 15 = gA st 1 15 ∧ gI (m_give mt (nI i) (nI j) v) = gI mt ∧ gA (m_give mt (nI i) (nI j) v) 4 = gA mt 4 := by
  obtain ⟨hO, hc⟩ := give_is mt hi hj v
  refine ⟨hO, ?_⟩
  obtain ⟨⟨r1, r2, r3, r4⟩, h2, h3, h4, h5, h6, h7, h8, h9, h10, h11, h12⟩ := h
  unfold cRegisters_become
  rw [slot_eq i hi j (by omega)]
  rcases hc with ⟨s, e⟩ | ⟨hb, s, e⟩ | ⟨hb, s, e⟩ | ⟨hb, s, e⟩
  · rw [e, s]
    exact ⟨⟨⟨upd_eq r1, upd_off (by omega) r2, upd_off (by omega) r3, upd_off (by omega) r4⟩, h2, h3, h4, h5, h6, h7, h8, h9, h10, h11, h12⟩, pk_un (by omega), rfl, rfl⟩
  · rw [e, s]
    exact ⟨⟨⟨upd_off0 (by omega) r1, upd_sh r2, upd_off (by omega) r3, upd_off (by omega) r4⟩, h2, h3, h4, h5, h6, h7, h8, h9, h10, h11, h12⟩, pk_un (by omega), rfl, rfl⟩
  · rw [e, s]
    exact ⟨⟨⟨upd_off0 (by omega) r1, upd_off (by omega) r2, upd_sh r3, upd_off (by omega) r4⟩, h2, h3, h4, h5, h6, h7, h8, h9, h10, h11, h12⟩, pk_un (by omega), rfl, rfl⟩
  · rw [e, s]
    exact ⟨⟨⟨upd_off0 (by omega) r1, upd_off (by omega) r2, upd_off (by omega) r3, upd_sh r4⟩, h2, h3, h4, h5, h6, h7, h8, h9, h10, h11, h12⟩, pk_un (by omega), rfl, rfl⟩
theorem isReg_cases (a b : Int32) : (cRegisters_isRegister a b = 0 ∧ m_isRegister a b = 0) ∨ (∃ i j, i < 4 ∧ j < 16 ∧ a = nI i ∧ b = nI j ∧ ¬ cRegisters_isRegister a b = 0 ∧ ¬ m_isRegister a b = 0) := by
  unfold cRegisters_isRegister m_isRegister
  rcases rt a 3 4 3 with ⟨i, hi, rfl, e0, e1, e2, e3, e4, -⟩ | ⟨e1, e2⟩
  · rw [if_neg e0, if_neg e4, if_neg e1]
    rcases rt b 15 16 15 with ⟨j, hj, rfl, f0, f1, f2, f3, f4, -⟩ | ⟨f1, f2⟩
    · rw [if_neg f0, if_neg f4, if_neg f1]
      exact Or.inr ⟨i, j, by omega, by omega, rfl, rfl, by decide, by decide⟩
    · left
      rw [if_pos f1]
      rcases f2 with q | ⟨q, -, -, q2, -⟩
      · rw [if_pos q]; exact ⟨rfl, rfl⟩
      · rw [if_neg q, if_pos q2]; exact ⟨rfl, rfl⟩
  · left
    rw [if_pos e1]
    rcases e2 with q | ⟨q, -, -, q2, -⟩
    · rw [if_pos q]; exact ⟨rfl, rfl⟩
    · rw [if_neg q, if_pos q2]; exact ⟨rfl, rfl⟩
theorem sim_register : Sim_register Rel := by
  intro k st mt a b _ h
  unfold cPageBoard_register m_register
  rcases isReg_cases a b with ⟨e1, e2⟩ | ⟨i, j, hi, hj, rfl, rfl, e1, e2⟩
  · rw [if_pos e1, if_pos e2]
    refine ⟨?_, Or.inl ⟨rfl, rfl, h.fail⟩⟩
    unfold o_m_register
    exact ⟨fun _ => trivial, fun q => absurd e2 q⟩
  · rw [if_neg e1, if_neg e2]
    rcases Nat.lt_or_ge j 15 with hj' | hj'
    · obtain ⟨g1, g2⟩ := get_eq (mt := sI mt 0 0) h.1.1 hi hj'
      refine ⟨?_, Or.inr ⟨_, rfl, rfl, g1, h.thrown 0⟩⟩
      unfold o_m_register
      exact ⟨fun _ => trivial, fun _ => ⟨g2, trivial⟩⟩
    · have : j = 15 := by omega
      subst this
      refine ⟨?_, Or.inr ⟨_, rfl, rfl, ?_, h.thrown 0⟩⟩
      · unfold o_m_register o_m_get
        exact ⟨fun _ => trivial, fun _ => ⟨⟨fun _ => trivial, fun q => absurd rfl q⟩, trivial⟩⟩
      · show cRegisters_of st (nI i) (nI 15) = gI mt 1
        unfold cRegisters_of
        rw [slot_eq i hi 15 (by omega)]
        exact h.2
theorem sim_put : Sim_put Rel := by
  intro k st mt a b c _ h
  unfold cPageBoard_put m_put
  rcases isReg_cases a b with ⟨e1, e2⟩ | ⟨i, j, hi, hj, rfl, rfl, e1, e2⟩
  · rw [if_pos e1, if_pos e2]
    refine ⟨?_, rfl, h.thrown 0⟩
    unfold o_m_put
    exact ⟨fun _ => trivial, fun q => absurd e2 q⟩
  · rw [if_neg e1, if_neg e2]
    rcases Nat.lt_or_ge j 15 with hj' | hj'
    · obtain ⟨g1, g2, g3, g4, -⟩ := give_RK (mt := sI mt 0 0) (h.1.thrown 0) hi hj' c
      refine ⟨?_, rfl, Rel_of ⟨g2, ?_⟩⟩
      · unfold o_m_put
        exact ⟨fun _ => trivial, fun _ => ⟨g1, trivial⟩⟩
      · show gA (cRegisters_become st (nI i) (nI j) c) 1 15 = gI (m_give (sI mt 0 0) (nI i) (nI j) c) 1
        rw [g3, g4]
        exact h.2
    · have : j = 15 := by omega
      subst this
      have eM : m_give (sI mt 0 0) (nI i) (nI 15) c = sI (sI mt 0 0) 1 c := by unfold m_give; exact if_pos rfl
      rw [eM]
      unfold cRegisters_become
      rw [slot_eq i hi 15 (by omega), show slN i 15 = 15 from rfl]
      refine ⟨?_, rfl, ?_⟩
      · unfold o_m_put o_m_give
        exact ⟨fun _ => trivial, fun _ => ⟨⟨fun _ => trivial, fun q => absurd rfl q⟩, trivial⟩⟩
      · obtain ⟨⟨⟨r1, r2, r3, r4⟩, h2, h3, h4, h5, h6, h7, h8, h9, h10, h11, h12⟩, h15⟩ := h
        exact Rel_of ⟨⟨⟨upd_off0 (by omega) r1, upd_off (by omega) r2, upd_off (by omega) r3, upd_off (by omega) r4⟩, h2, h3, h4, h5, h6, h7, h8, h9, h10, h11, h12⟩, rfl⟩
