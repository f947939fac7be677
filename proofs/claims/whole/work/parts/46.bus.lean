/-! PURE 6: pages and places -/
theorem page_loop {st mt : CS} (h : ∀ j, j < 16 → gA st 2 j = gA mt 7 j) (a : Int32) : ∀ n i, i + n = 17 → i ≤ 16 → ∃ r, cEntries_withNumber_b2 n st (ushr a 12) (nI i) = some r ∧ m_pageOf_b2 n mt a (nI i) = some r ∧ o_m_pageOf_b2 n mt a (nI i) ∧ (r = -1 ∨ ∃ p, p < 16 ∧ r = nI p) := by
  intro n
  induction n with
  | zero => intro i h1 h2; omega
  | succ n ih =>
    intro i h1 h2
    simp only [cEntries_withNumber_b2, m_pageOf_b2, o_m_pageOf_b2]
    rcases Nat.lt_or_ge i 16 with q | q
    · have c : ¬ (16 : Int32) ≤ nI i := nI_ge (b := 16) q (by decide)
      rw [if_neg c, if_neg c, nI_clamp (by omega), h i q]
      by_cases e : gA mt 7 i = ushr a 12
      · rw [if_pos e, if_pos e]
        exact ⟨nI i, rfl, rfl, ⟨fun z => absurd z c, fun _ => ⟨vp_in_nI q (by decide), fun _ => trivial, fun z => absurd e z⟩⟩, Or.inr ⟨i, q, rfl⟩⟩
      · rw [if_neg e, if_neg e, nI_1]
        obtain ⟨r, r1, r2, r3, r4⟩ := ih (i + 1) (by omega) (by omega)
        exact ⟨r, r1, r2, ⟨fun z => absurd z c, fun _ => ⟨vp_in_nI q (by decide), fun z => absurd z e, fun _ => r3⟩⟩, r4⟩
    · have c : (16 : Int32) ≤ nI i := nI_le (a := 16) q (by omega)
      rw [if_pos c, if_pos c]
      exact ⟨-1, rfl, rfl, ⟨fun _ => trivial, fun z => absurd c z⟩, Or.inl rfl⟩
theorem page_eq {st mt : CS} (h : ∀ j, j < 16 → gA st 2 j = gA mt 7 j) (a : Int32) : cEntries_withNumber st (ushr a 12) = m_pageOf mt a ∧ o_m_pageOf mt a ∧ (m_pageOf mt a = -1 ∨ ∃ p, p < 16 ∧ m_pageOf mt a = nI p) := by
  obtain ⟨r, r1, r2, r3, r4⟩ := page_loop h a 17 0 rfl (by omega)
  have e1 : cEntries_withNumber st (ushr a 12) = r := congrArg (fun z => z.getD 0) r1
  have e2 : m_pageOf mt a = r := congrArg (fun z => z.getD 0) r2
  rw [e1, e2]
  exact ⟨rfl, ⟨r3, r, r2⟩, r4⟩
theorem lets_eq {st mt : CS} (h : REnt st mt) (x3 : Int32) {p : Nat} (hp : p < 16) : cEntries_letsUser st (nI p) x3 = (if gA mt 8 (nI p).toNatClampNeg = 0 then (1 : Int32) else if gA mt 8 (nI p).toNatClampNeg = 1 then (if x3 = 0 then m_may_b70 mt else if gI mt 8 = 1 then m_may_b70 mt else 0) else if x3 = 0 then (if gI mt 8 = 1 then 1 else 0) else 0) := by
  unfold cEntries_letsUser
  rw [nand 4 rfl (by omega) (by omega), nI_clamp (by omega), h.2.1 p hp, h.2.2]
  rfl
theorem ush2 {a : Nat} (ha : a < 67108864) : ushr (nI a) 2 = nI (a / 4) := pk_ushrN (by omega) 2 2 (by decide)
theorem nI_m1 {w : Nat} (h : w < 2 ^ 31) : ¬ nI w = -1 := fun q => nI_pos h (by rw [q]; decide)
theorem find_spec {st mt : CS} (h : REnt st mt) (x1 x3 : Int32) {a : Nat} (ha : a < 67108864) : o_m_may mt x1 (nI a) x3 ∧ o_m_wordAt mt (nI a) ∧
    ((cBus_find st x1 (nI a) x3 = -1 ∧ m_may mt x1 (nI a) x3 = 0) ∨
     (¬ m_may mt x1 (nI a) x3 = 0 ∧ ∃ w, w < 16384 ∧ a < 50331648 ∧ cBus_find st x1 (nI a) x3 = nI w ∧ m_wordAt mt (nI a) = nI w) ∨
     (¬ m_may mt x1 (nI a) x3 = 0 ∧ 50331648 ≤ a ∧ cBus_find st x1 (nI a) x3 = -2 ∧ m_wordAt mt (nI a) = -1)) := by
  obtain ⟨p1, p2, p3⟩ := page_eq h.1 (nI a)
  have u2 := ush2 ha
  have oW : o_m_wordAt mt (nI a) := by
    unfold o_m_wordAt
    exact ⟨fun _ => ⟨fun _ => ⟨p2, trivial⟩, fun _ => trivial⟩, fun _ => trivial⟩
  have oM : o_m_may mt x1 (nI a) x3 := by
    unfold o_m_may
    refine ⟨fun _ => ⟨p2, fun _ => trivial, fun q => ?_⟩, fun _ => trivial⟩
    rcases p3 with e | ⟨p, hp, e⟩
    · exact absurd e q
    · have v : vp_in (m_pageOf mt (nI a)) 16 := by rw [e]; exact vp_in_nI hp (by decide)
      exact ⟨fun _ => ⟨v, fun _ => trivial, fun _ => ⟨v, trivial⟩⟩, fun _ => trivial⟩
  refine ⟨oM, oW, ?_⟩
  unfold cBus_find m_may m_wordAt
  rcases Nat.lt_or_ge a 33554432 with q | q
  · have c1 : nI a < 33554432 := nI_lt (b := 33554432) q (by decide)
    have c2 : nI a < 50331648 := nI_lt (b := 50331648) (by omega) (by decide)
    rw [if_neg (Int32.not_le.mpr c1), if_pos c1, if_pos c2, if_pos c1, p1]
    rcases p3 with e | ⟨p, hp, e⟩
    · left
      rw [if_pos e, if_pos e]
      exact ⟨rfl, rfl⟩
    · have e1 : ¬ m_pageOf mt (nI a) = -1 := by rw [e]; exact nI_m1 (by omega)
      rw [if_neg e1, if_neg e1, e, lets_eq h x3 hp]
      have w1 : cBus_find_b44 st (nI a) (nI p) = nI (p * 1024 + a / 4 % 1024) := by
        unfold cBus_find_b44
        rw [u2, pk_andN (by omega) 10 rfl, show nI p * 1024 = nI (p * 1024) from pk_mul p 1024, nI_add]
      have w2 : (1024 : Int32) * nI p + (ushr (nI a) 2 &&& 1023) = nI (p * 1024 + a / 4 % 1024) := by
        rw [u2, pk_andN (by omega) 10 rfl, show (1024 : Int32) * nI p = nI (1024 * p) from pk_mul 1024 p, nI_add, Nat.mul_comm]
      rw [w1, w2]
      by_cases x0 : x1 = 0
      · rw [if_pos x0, if_pos x0]
        by_cases z : (if gA mt 8 (nI p).toNatClampNeg = 0 then (1 : Int32) else if gA mt 8 (nI p).toNatClampNeg = 1 then (if x3 = 0 then m_may_b70 mt else if gI mt 8 = 1 then m_may_b70 mt else 0) else if x3 = 0 then (if gI mt 8 = 1 then 1 else 0) else 0) = 0
        · left
          rw [if_pos z]
          exact ⟨rfl, z⟩
        · right; left
          rw [if_neg z]
          exact ⟨z, p * 1024 + a / 4 % 1024, by omega, by omega, rfl, rfl⟩
      · right; left
        rw [if_neg x0, if_neg x0]
        exact ⟨by decide, p * 1024 + a / 4 % 1024, by omega, by omega, rfl, rfl⟩
  · have c1 : ¬ nI a < 33554432 := nI_nlt (b := 33554432) q (by omega)
    rw [if_pos (Int32.not_lt.mp c1), if_neg c1, if_neg c1]
    by_cases x0 : x1 = 0
    · left
      rw [if_pos x0, if_pos x0]
      exact ⟨rfl, rfl⟩
    · rw [if_neg x0, if_neg x0]
      rcases Nat.lt_or_ge a 50331648 with q2 | q2
      · have c2 : nI a < 50331648 := nI_lt (b := 50331648) q2 (by decide)
        right; left
        rw [if_neg (Int32.not_le.mpr c2), if_pos c2, u2, pk_andN (by omega) 14 rfl]
        exact ⟨by decide, a / 4 % 16384, by omega, q2, rfl, rfl⟩
      · have c2 : ¬ nI a < 50331648 := nI_nlt (b := 50331648) q2 (by omega)
        right; right
        rw [if_pos (Int32.not_lt.mp c2), if_neg c2]
        exact ⟨by decide, q2, rfl, rfl⟩
theorem sim_allowed : Sim_allowed Rel := by
  intro k st mt a b c _ h
  have hh := h.thrown 0
  unfold cPageBoard_allowed m_allowed
  have eC : (o_m_allowed mt a b c ∧ (if a < 0 then (-1 : Int32) else if 3 < a then -1 else if c < 0 then -1 else if c ≤ 1 then (if b < 0 then -1 else if b < 67108864 then (if c = 1 then cPageBoard_allowed_b48 st a b 1 else cPageBoard_allowed_b48 st a b 0) else -1) else -1) = (m_allowed mt a b c).2 ∧ (m_allowed mt a b c).1 = sI mt 0 0) := by
    unfold m_allowed o_m_allowed o_m_allowed_b49
    rcases rt a 3 4 3 with ⟨i, hi, rfl, e0, e1, e2, e3, e4, -⟩ | ⟨e1, e2⟩
    · rw [if_neg e0, if_neg e4, if_neg e1]
      rcases rt b 67108863 67108864 67108863 with ⟨j, hj, rfl, f0, f1, f2, -⟩ | ⟨f1, f2⟩
      · rw [if_neg f0, if_pos f2, if_neg f1]
        rcases rt c 1 2 1 with ⟨l, hl, rfl, g0, g1, g2, g3, g4, g5⟩ | ⟨g1, g2⟩
        · rw [if_neg g0, if_pos g5, if_neg g1]
          have key : ∀ x : Int32, o_m_may (sI mt 0 0) (nI i) (nI j) x ∧ cPageBoard_allowed_b48 st (nI i) (nI j) x = (m_allowed_b49 (sI mt 0 0) (nI i) (nI j) x).2 ∧ (m_allowed_b49 (sI mt 0 0) (nI i) (nI j) x).1 = sI mt 0 0 := by
            intro x
            obtain ⟨o1, -, hc⟩ := find_spec (mt := sI mt 0 0) h.1.2.2.1 (nI i) x (a := j) (by omega)
            refine ⟨o1, ?_⟩
            unfold cPageBoard_allowed_b48 m_allowed_b49
            rcases hc with ⟨d1, d2⟩ | ⟨d1, w, hw, -, d2, -⟩ | ⟨d1, -, d2, -⟩
            · rw [if_pos d1, if_pos d2]; exact ⟨rfl, rfl⟩
            · rw [if_neg d1, d2, if_neg (nI_m1 (by omega))]; exact ⟨rfl, rfl⟩
            · rw [if_neg d1, d2, if_neg (by decide)]; exact ⟨rfl, rfl⟩
          refine ⟨⟨fun _ => trivial, fun _ => ⟨fun _ => trivial, fun _ => ⟨fun _ => trivial, fun _ => ⟨fun _ => ⟨(key 1).1, trivial⟩, fun _ => ⟨(key 0).1, trivial⟩⟩⟩⟩⟩, ?_⟩
          by_cases c1 : nI l = 1
          · rw [if_pos c1, if_pos c1]; exact (key 1).2
          · rw [if_neg c1, if_neg c1]; exact (key 0).2
        · rw [if_pos g1]
          refine ⟨⟨fun _ => trivial, fun _ => ⟨fun _ => trivial, fun _ => ⟨fun _ => trivial, fun q => absurd g1 q⟩⟩⟩, ?_, rfl⟩
          rcases g2 with q | ⟨q, -, -, -, q2⟩
          · rw [if_pos q]
          · rw [if_neg q, if_neg q2]
      · rw [if_pos f1]
        refine ⟨⟨fun _ => trivial, fun _ => ⟨fun _ => trivial, fun q => absurd f1 q⟩⟩, ?_, rfl⟩
        by_cases q : c < 0
        · rw [if_pos q]
        rw [if_neg q]
        by_cases q : c ≤ 1
        · rw [if_pos q]
          rcases f2 with q | ⟨q, q2, -⟩
          · rw [if_pos q]
          · rw [if_neg q, if_neg q2]
        · rw [if_neg q]
    · rw [if_pos e1]
      refine ⟨⟨fun _ => trivial, fun q => absurd e1 q⟩, ?_, rfl⟩
      rcases e2 with q | ⟨q, -, -, q2, -⟩
      · rw [if_pos q]
      · rw [if_neg q, if_pos q2]
  obtain ⟨x1, x2, x3⟩ := eC
  refine ⟨x1, x2, ?_⟩
  have x3' : _ = sI mt 0 0 := x3
  unfold m_allowed at x3'
  rw [x3']
  exact hh
