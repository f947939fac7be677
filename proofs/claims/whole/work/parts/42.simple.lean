/-! PURE 2: the simple calls -/
theorem i_lt {a b : Int32} : a < b ↔ a.toInt < b.toInt := Int32.lt_iff_toInt_lt
theorem i_le {a b : Int32} : a ≤ b ↔ a.toInt ≤ b.toInt := Int32.le_iff_toInt_le
theorem i_eq {a b : Int32} : a = b ↔ a.toInt = b.toInt := Int32.toInt_inj.symm
theorem rt (a M M1 : Int32) (n : Nat) (hM : M = nI n := by rfl) (h1 : M1 = nI (n + 1) := by rfl) (hn : n + 1 < 2 ^ 31 := by decide) :
    (∃ j, j ≤ n ∧ a = nI j ∧ ¬ a < 0 ∧ ¬ m_within a 0 M = 0 ∧ a < M1 ∧ ¬ M1 ≤ a ∧ ¬ M < a ∧ a ≤ M) ∨ (m_within a 0 M = 0 ∧ (a < 0 ∨ (¬ a < 0 ∧ ¬ a < M1 ∧ M1 ≤ a ∧ M < a ∧ ¬ a ≤ M))) := by
  subst hM h1
  rcases pk_ix a (n := n + 1) hn with h | h | ⟨j, hj, rfl⟩
  · exact Or.inr ⟨(within_iff _ _ _).mpr (fun q => Int32.not_le.mpr h q.1), Or.inl h⟩
  · have h0 : ¬ a < 0 := fun q => absurd (Int32.lt_of_le_of_lt h q) (nI_pos hn)
    have hl : nI n < a := Int32.lt_of_lt_of_le (nI_lt (Nat.lt_succ_self n) hn) h
    exact Or.inr ⟨(within_iff _ _ _).mpr (fun q => Int32.not_le.mpr hl q.2), Or.inr ⟨h0, Int32.not_lt.mpr h, h, hl, Int32.not_le.mpr hl⟩⟩
  · have hj31 : j < 2 ^ 31 := by omega
    have h0 : ¬ nI j < 0 := nI_pos hj31
    have hle : nI j ≤ nI n := nI_le (by omega) (by omega)
    have hlt : nI j < nI (n + 1) := nI_lt hj hn
    exact Or.inl ⟨j, by omega, rfl, h0, fun q => (within_iff _ _ _).mp q ⟨Int32.not_lt.mp h0, hle⟩, hlt, Int32.not_le.mpr hlt, Int32.not_lt.mpr hle, hle⟩
theorem Rel_of {k : Nat} {st mt : CS} (h : RR (k * 2000000) st mt) : Rel (k + 1) st mt := Rel_k k st mt h
theorem Rel.fail {k : Nat} {st mt : CS} (h : Rel k st mt) : Rel (k + 1) st (m_fail (sI mt 0 0)).1 := Rel_k k st _ h
theorem sim_stopAt : Sim_stopAt Rel := by
  intro k st mt a _ h
  have hs : ∀ v : Int32, Rel (k + 1) (sI st 0 v) (sI (sI mt 0 0) 24 v) := by
    intro v
    obtain ⟨⟨h1, h2, h3, h4, h5, h6, h7, h8, h9, h10, h11, ⟨c1, c2, c3, c4, c5, c6, c7⟩⟩, h15⟩ := h
    exact Rel_of ⟨⟨h1, h2, h3, h4, h5, h6, h7, h8, h9, h10, h11, ⟨c1, c2, c3, c4, c5, c6, rfl⟩⟩, h15⟩
  unfold cPageBoard_stopAt m_stopAt
  by_cases e1 : a = -1
  · subst e1
    exact ⟨rfl, hs (-1)⟩
  · rw [if_neg e1]
    by_cases e2 : a < 0
    · have q : a < -1 := by
        rw [i_lt] at e2 ⊢
        rw [i_eq] at e1
        have p1 : (-1 : Int32).toInt = -1 := by decide
        have p2 : (0 : Int32).toInt = 0 := by decide
        omega
      rw [if_pos e2, if_pos q]
      exact ⟨rfl, h.thrown 0⟩
    · have q : ¬ a < -1 := by
        rw [i_lt] at e2 ⊢
        have p1 : (-1 : Int32).toInt = -1 := by decide
        have p2 : (0 : Int32).toInt = 0 := by decide
        omega
      rw [if_neg e2, if_neg q]
      by_cases e3 : a < 67108864
      · rw [if_pos e3, if_pos e3, if_neg e1]
        exact ⟨rfl, hs _⟩
      · rw [if_neg e3, if_neg e3]
        exact ⟨rfl, h.thrown 0⟩
theorem sim_poke : Sim_poke Rel := by
  intro k st mt a b c _ h
  unfold cPageBoard_poke m_poke
  rcases rt a 16382 16383 16382 with ⟨j, hj, rfl, e0, e1, e2, -⟩ | ⟨e1, e2⟩
  · rw [if_neg e0, if_pos e2, if_neg e1]
    refine ⟨?_, rfl, ?_⟩
    · unfold o_m_poke o_m_poke_b25
      refine ⟨fun q => absurd q e1, fun _ => ⟨vp_in_nI (by omega) (by decide), ?_, trivial⟩⟩
      rw [nI_1]
      exact vp_in_nI (by omega) (by decide)
    · obtain ⟨⟨h1, h2, h3, h4, h5, h6, h7, h8, h9, h10, h11, h12⟩, h15⟩ := h
      exact Rel_of ⟨⟨h1, ⟨fun i hi => upd_eq (upd_eq h2.1) i hi, h2.2⟩, h3, h4, h5, h6, h7, h8, h9, h10, h11, h12⟩, h15⟩
  · have eC : (if a < 0 then (st, (0 : Int32)) else if a < 16383 then cPageBoard_poke_b20 (sA st 0 (upd (gA st 0) a.toNatClampNeg b)) a c else (st, 0)) = (st, 0) := by
      rcases e2 with q | ⟨q, q2, -⟩
      · rw [if_pos q]
      · rw [if_neg q, if_neg q2]
    rw [eC, if_pos e1]
    refine ⟨?_, rfl, h.thrown 0⟩
    unfold o_m_poke
    exact ⟨fun _ => trivial, fun q => absurd e1 q⟩
theorem sim_peek : Sim_peek Rel := by
  intro k st mt a _ h
  unfold cPageBoard_peek m_peek
  rcases rt a 16383 16384 16383 with ⟨j, hj, rfl, e0, e1, e2, -⟩ | ⟨e1, e2⟩
  · rw [if_neg e0, if_pos e2, if_neg e1]
    refine ⟨?_, Or.inr ⟨_, rfl, rfl, ?_, h.thrown 0⟩⟩
    · unfold o_m_peek
      exact ⟨fun q => absurd q e1, fun _ => ⟨vp_in_nI (by omega) (by decide), trivial⟩⟩
    · show gA st 0 (nI j).toNatClampNeg = gA mt 5 (nI j).toNatClampNeg
      rw [nI_clamp (by omega)]
      exact h.1.2.1.1 j (by omega)
  · have eC : (if a < 0 then none else if a < 16384 then some (st, cPageBoard_peek_b21 st a) else none) = (none : Option (CS × Int32)) := by
      rcases e2 with q | ⟨q, q2, -⟩
      · rw [if_pos q]
      · rw [if_neg q, if_neg q2]
    rw [eC, if_pos e1]
    refine ⟨?_, Or.inl ⟨rfl, rfl, h.fail⟩⟩
    unfold o_m_peek
    exact ⟨fun _ => trivial, fun q => absurd e1 q⟩
theorem isWord_cases (a b : Int32) : (cDisk_isWord a b = 0 ∧ m_isStored a b = 0) ∨ (∃ i j, i < 16 ∧ j < 1024 ∧ a = nI i ∧ b = nI j ∧ ¬ cDisk_isWord a b = 0 ∧ ¬ m_isStored a b = 0) := by
  unfold cDisk_isWord m_isStored
  rcases rt a 15 16 15 with ⟨i, hi, rfl, e0, e1, e2, e3, -⟩ | ⟨e1, e2⟩
  · rw [if_neg e0, if_neg e3, if_neg e1]
    rcases rt b 1023 1024 1023 with ⟨j, hj, rfl, f0, f1, f2, f3, -⟩ | ⟨f1, f2⟩
    · rw [if_neg f0, if_neg f3, if_neg f1]
      exact Or.inr ⟨i, j, by omega, by omega, rfl, rfl, by decide, by decide⟩
    · left
      rw [if_pos f1]
      rcases f2 with q | ⟨q, -, q2, -⟩
      · rw [if_pos q]; exact ⟨rfl, rfl⟩
      · rw [if_neg q, if_pos q2]; exact ⟨rfl, rfl⟩
  · left
    rw [if_pos e1]
    rcases e2 with q | ⟨q, -, q2, -⟩
    · rw [if_pos q]; exact ⟨rfl, rfl⟩
    · rw [if_neg q, if_pos q2]; exact ⟨rfl, rfl⟩
theorem nand {j : Nat} {m : Int32} (k : Nat) (hm : m.toBitVec.toNat = 2 ^ k - 1) (hj : j < 2 ^ k) (h32 : j < 2 ^ 32) : nI j &&& m = nI j := by
  rw [pk_andN h32 k hm, Nat.mod_eq_of_lt hj]
theorem ix_w {i j : Nat} (hi : i < 16) (hj : j < 1024) : (((nI i &&& 15) * 1024) + (nI j &&& 1023)).toNatClampNeg = 1024 * i + j ∧ ((1024 * nI i) + nI j).toNatClampNeg = 1024 * i + j ∧ vp_in ((1024 * nI i) + nI j) 16384 := by
  have a1 : nI i &&& 15 = nI i := nand 4 rfl (by omega) (by omega)
  have a2 : nI j &&& 1023 = nI j := nand 10 rfl (by omega) (by omega)
  have a3 : (1024 : Int32) * nI i = nI (1024 * i) := pk_mul 1024 i
  have a4 : nI i * 1024 = nI (i * 1024) := pk_mul i 1024
  rw [a1, a2, a4, a3, nI_add, nI_add, nI_clamp (by omega), nI_clamp (by omega)]
  exact ⟨by omega, rfl, vp_in_nI (by omega) (by decide)⟩
theorem sim_store : Sim_store Rel := by
  intro k st mt a b c _ h
  unfold cPageBoard_store m_store
  rcases isWord_cases a b with ⟨e1, e2⟩ | ⟨i, j, hi, hj, rfl, rfl, e1, e2⟩
  · rw [if_pos e1, if_pos e2]
    refine ⟨?_, rfl, h.thrown 0⟩
    unfold o_m_store
    exact ⟨fun _ => trivial, fun q => absurd e2 q⟩
  · rw [if_neg e1, if_neg e2]
    obtain ⟨x1, x2, x3⟩ := ix_w hi hj
    refine ⟨?_, rfl, ?_⟩
    · unfold o_m_store
      exact ⟨fun q => absurd q e2, fun _ => ⟨x3, trivial⟩⟩
    · unfold cDisk_change
      rw [x1, x2]
      obtain ⟨⟨h1, h2, h3, h4, h5, h6, h7, h8, h9, h10, h11, h12⟩, h15⟩ := h
      exact Rel_of ⟨⟨h1, ⟨h2.1, fun i hi => upd_eq h2.2 i hi⟩, h3, h4, h5, h6, h7, h8, h9, h10, h11, h12⟩, h15⟩
theorem sim_stored : Sim_stored Rel := by
  intro k st mt a b _ h
  unfold cPageBoard_stored m_stored
  rcases isWord_cases a b with ⟨e1, e2⟩ | ⟨i, j, hi, hj, rfl, rfl, e1, e2⟩
  · rw [if_pos e1, if_pos e2]
    refine ⟨?_, Or.inl ⟨rfl, rfl, h.fail⟩⟩
    unfold o_m_stored
    exact ⟨fun _ => trivial, fun q => absurd e2 q⟩
  · rw [if_neg e1, if_neg e2]
    obtain ⟨x1, x2, x3⟩ := ix_w hi hj
    refine ⟨?_, Or.inr ⟨_, rfl, rfl, ?_, h.thrown 0⟩⟩
    · unfold o_m_stored
      exact ⟨fun q => absurd q e2, fun _ => ⟨x3, trivial⟩⟩
    · unfold cPageBoard_stored_b18 cDisk_wordOf
      show gA st 5 _ = gA mt 6 _
      rw [x1, x2]
      exact h.1.2.1.2 _ (by omega)
def vB (d t r : Bool) : Int32 := ((bif d then 0 else 8) ||| (bif t then 64 else 0)) ||| (bif r then 0 else 128)
theorem m_statusB_eq (mt : CS) : m_statusB mt = vB (decide (gI mt 23 = 0)) (decide (gI mt 15 = 0)) (decide (gI mt 14 = 0)) := by
  unfold m_statusB m_statusB_b13 m_statusB_b26 vB
  by_cases h1 : gI mt 23 = 0 <;> by_cases h2 : gI mt 15 = 0 <;> by_cases h3 : gI mt 14 = 0 <;> simp [h1, h2, h3]
def vF (d : Bool) : Int32 := bif d then 128 else 129
theorem m_statusF_eq (mt : CS) : m_statusF mt = vF (decide (gI mt 23 = 0)) := by
  unfold m_statusF vF
  by_cases h1 : gI mt 23 = 0
  · rw [if_pos h1, decide_eq_true h1]; rfl
  · rw [if_neg h1, decide_eq_false h1]; rfl
theorem vB1 : ∀ d t, vB d t true &&& 128 = 0 := by decide
theorem vB2 : ∀ d t, vB d t true ||| 128 = vB d t false := by decide
theorem vB0 : ∀ d t, ¬ vB d t false &&& 128 = 0 := by decide
theorem sim_key : Sim_key Rel := by
  intro k st mt a _ h
  have hB : gI st 3 = m_statusB mt := h.1.2.2.2.1.2.1
  unfold cPageBoard_key cSerial_receive m_key
  rw [hB]
  by_cases e : gI mt 14 = 0
  · have e1 : m_statusB mt &&& 128 = 0 := by rw [m_statusB_eq, decide_eq_true e]; exact vB1 _ _
    rw [if_pos e1, if_pos e]
    obtain ⟨⟨h1, h2, h3, h4, h5, h6, h7, h8, h9, h10, h11, h12⟩, h15⟩ := h
    refine ⟨rfl, Rel_of ⟨⟨h1, h2, h3, ⟨h4.1, ?_, h4.2.2⟩, ⟨h5.1, h5.2.1, h5.2.2.1, Or.inr rfl, h5.2.2.2.2⟩, ⟨rfl, h6.2⟩, h7, h8, h9, h10, h11, h12⟩, h15⟩⟩
    show m_statusB mt ||| 128 = m_statusB _
    rw [m_statusB_eq mt, m_statusB_eq, decide_eq_true e]
    exact vB2 _ _
  · have e1 : ¬ m_statusB mt &&& 128 = 0 := by rw [m_statusB_eq, decide_eq_false e]; exact vB0 _ _
    rw [if_neg e1, if_neg e]
    exact ⟨rfl, h.thrown 0⟩
theorem sim_entry : Sim_entry Rel := by
  intro k st mt a b _ h
  unfold cPageBoard_entry m_entry
  rcases rt a 15 16 15 with ⟨i, hi, rfl, e0, e1, e2, -⟩ | ⟨e1, e2⟩
  · rw [if_neg e0, if_pos e2, if_neg e1]
    have o1 : vp_in (nI i) 16 := vp_in_nI (by omega) (by decide)
    have n1 : nI i &&& 15 = nI i := nand 4 rfl (by omega) (by omega)
    have hO : o_m_entry mt (nI i) b := by
      unfold o_m_entry
      exact ⟨fun _ => trivial, fun _ => ⟨fun _ => trivial, fun _ => ⟨fun _ => ⟨o1, trivial⟩, fun _ => ⟨o1, trivial⟩⟩⟩⟩
    by_cases b0 : b = 0
    · subst b0
      refine ⟨hO, ?_, h.thrown 0⟩
      show gA st 2 (nI i &&& 15).toNatClampNeg = gA mt 7 (nI i).toNatClampNeg
      rw [n1, nI_clamp (by omega)]
      exact h.1.2.2.1.1 i (by omega)
    · by_cases b1 : b = 1
      · subst b1
        refine ⟨hO, ?_, h.thrown 0⟩
        show gA st 3 (nI i &&& 15).toNatClampNeg = gA mt 8 (nI i).toNatClampNeg
        rw [n1, nI_clamp (by omega)]
        exact h.1.2.2.1.2.1 i (by omega)
      · rw [if_neg b0, if_neg b1]
        have w : m_within b 0 1 = 0 := by
          rcases rt b 1 2 1 with ⟨j, hj, rfl, -⟩ | ⟨q, -⟩
          · exfalso
            rcases Nat.eq_zero_or_pos j with rfl | hp
            · exact b0 rfl
            · have : j = 1 := by omega
              subst this
              exact b1 rfl
          · exact q
        rw [if_pos w]
        exact ⟨hO, rfl, h.thrown 0⟩
  · have eC : (if a < 0 then (-1 : Int32) else if a < 16 then (if b = 0 then cEntries_numberOf st a else if b = 1 then cEntries_levelOf st a else -1) else -1) = -1 := by
      rcases e2 with q | ⟨q, q2, -⟩
      · rw [if_pos q]
      · rw [if_neg q, if_neg q2]
    rw [eC, if_pos e1]
    refine ⟨?_, rfl, h.thrown 0⟩
    unfold o_m_entry
    exact ⟨fun _ => trivial, fun q => absurd e1 q⟩
theorem sim_place : Sim_place Rel := by
  intro k st mt a b _ h
  unfold cPageBoard_place m_place
  rcases rt a 63 64 63 with ⟨i, hi, rfl, e0, e1, e2, e3, -⟩ | ⟨e1, e2⟩
  · rw [if_neg e0, if_neg e3, if_neg e1]
    rcases rt b 31 32 31 with ⟨j, hj, rfl, f0, f1, f2, f3, -⟩ | ⟨f1, f2⟩
    · rw [if_neg f0, if_pos f2, if_neg f1]
      have a1 : nI j * 64 + nI i = nI (j * 64 + i) := by rw [show (64 : Int32) = nI 64 from rfl, pk_mul, nI_add]
      have a2 : 64 * nI j + nI i = nI (j * 64 + i) := by rw [show (64 : Int32) = nI 64 from rfl, pk_mul, nI_add, Nat.mul_comm]
      refine ⟨?_, ?_, h.thrown 0⟩
      · unfold o_m_place
        refine ⟨fun _ => trivial, fun _ => ⟨fun _ => trivial, fun _ => ⟨?_, trivial⟩⟩⟩
        rw [a2]
        exact vp_in_nI (by omega) (by decide)
      · unfold cScreen_placeOf
        show gA st 7 _ = gA mt 11 _
        rw [a1, a2, nand 11 rfl (by omega) (by omega), nI_clamp (by omega)]
        exact h.1.2.2.2.2.2.2.2.2.1.2.2.2.2.2.2.2.2 _ (by omega)
    · have eC : (if b < 0 then (-1 : Int32) else if b < 32 then cScreen_placeOf st (b * 64 + nI i) else -1) = -1 := by
        rcases f2 with q | ⟨q, q2, -⟩
        · rw [if_pos q]
        · rw [if_neg q, if_neg q2]
      rw [eC, if_pos f1]
      refine ⟨?_, rfl, h.thrown 0⟩
      unfold o_m_place
      exact ⟨fun _ => trivial, fun _ => ⟨fun _ => trivial, fun q => absurd f1 q⟩⟩
  · have eC : (if a < 0 then (-1 : Int32) else if 64 ≤ a then -1 else if b < 0 then -1 else if b < 32 then cScreen_placeOf st (b * 64 + a) else -1) = -1 := by
      rcases e2 with q | ⟨q, -, q2, -⟩
      · rw [if_pos q]
      · rw [if_neg q, if_pos q2]
    rw [eC, if_pos e1]
    refine ⟨?_, rfl, h.thrown 0⟩
    unfold o_m_place
    exact ⟨fun _ => trivial, fun q => absurd e1 q⟩
theorem lgc_tri {a b : Nat} (ha : a < 2 ^ 63) (hb : b < 2 ^ 63) : (a < b ∧ lg_cmp (lN a) (lN b) = -1) ∨ (a = b ∧ lg_cmp (lN a) (lN b) = 0) ∨ (b < a ∧ lg_cmp (lN a) (lN b) = 1) := by
  unfold lg_cmp
  rcases Nat.lt_trichotomy a b with h | h | h
  · left
    refine ⟨h, ?_⟩
    rw [if_neg (fun q => by have := (pk_lLT hb ha).mp q; omega), if_neg (fun q => by have := (pk_lEQ ha hb).mp q; omega)]
  · right; left
    subst h
    refine ⟨rfl, ?_⟩
    rw [if_neg (fun q => by have := (pk_lLT ha ha).mp q; omega), if_pos rfl]
  · right; right
    exact ⟨h, if_pos ((pk_lLT hb ha).mpr h)⟩
theorem letter_core {st mt : CS} {n f j : Nat} (hn : n < 2 ^ 31) (hj : j < 2 ^ 31) (hf : f ≤ n) (hf2 : n ≤ f + 4000) (h3 : ∀ i, i < n → n ≤ i + 4000 → gA st 4 (i % 4096) &&& 255 = gA mt 16 (i % 4000) &&& 255) (h1 : gL mt 1 = lN n) :
    o_m_letter_b28 (sI mt 0 0) (nI j) (lN f) ∧ (if lg_cmp (nI j).toInt64 (lN n - lN f) < 0 then (gA st 4 (((lN f + (nI j).toInt64).toInt32) &&& 4095).toNatClampNeg) &&& 255 else (-1 : Int32)) = (m_letter_b28 (sI mt 0 0) (nI j) (lN f)).2 ∧ (m_letter_b28 (sI mt 0 0) (nI j) (lN f)).1 = sI mt 0 0 := by
  have hj0 : ¬ nI j < 0 := nI_pos hj
  have hL : gL (sI mt 0 0) 1 = lN n := h1
  have x1 : ((lN f + lN j) - (lN f + lN j) / (4000 : Int64) * (4000 : Int64)).toInt32 = nI ((f + j) % 4000) := by
    rw [lN_add, show (4000 : Int64) = lN 4000 from rfl, pk_lRem (by omega) (by omega) (by omega), lN_i]
  have x2 : ((lN f + lN j).toInt32 &&& 4095) = nI ((f + j) % 4096) := by
    rw [lN_add, lN_i, pk_andN (by omega) 12 rfl]
  unfold o_m_letter_b28 m_letter_b28
  rw [if_neg hj0, nI_l hj, lN_sub hf, hL, x1, x2, lN_add]
  rcases lgc_tri (a := f + j) (b := n) (by omega) (by omega) with ⟨c, e⟩ | ⟨c, e⟩ | ⟨c, e⟩
  · have e2 : lg_cmp (lN j) (lN (n - f)) < 0 := by
      rcases lgc_tri (a := j) (b := n - f) (by omega) (by omega) with ⟨d, q⟩ | ⟨d, q⟩ | ⟨d, q⟩
      · rw [q]; decide
      · omega
      · omega
    rw [e, if_pos e2, if_neg (by decide)]
    refine ⟨⟨fun q => absurd q hj0, fun _ => ⟨fun _ => trivial, fun _ => ⟨vp_in_nI (Nat.mod_lt _ (by omega)) (by decide), trivial⟩⟩⟩, ?_, rfl⟩
    show gA st 4 _ &&& 255 = gA mt 16 _ &&& 255
    rw [nI_clamp (by omega), nI_clamp (by omega)]
    exact h3 (f + j) c (by omega)
  · have e2 : ¬ lg_cmp (lN j) (lN (n - f)) < 0 := by
      rcases lgc_tri (a := j) (b := n - f) (by omega) (by omega) with ⟨d, q⟩ | ⟨d, q⟩ | ⟨d, q⟩
      · omega
      · rw [q]; decide
      · rw [q]; decide
    rw [e, if_neg e2, if_pos (by decide)]
    exact ⟨⟨fun q => absurd q hj0, fun _ => ⟨fun _ => trivial, fun q => absurd (by decide) q⟩⟩, rfl, rfl⟩
  · have e2 : ¬ lg_cmp (lN j) (lN (n - f)) < 0 := by
      rcases lgc_tri (a := j) (b := n - f) (by omega) (by omega) with ⟨d, q⟩ | ⟨d, q⟩ | ⟨d, q⟩
      · omega
      · rw [q]; decide
      · rw [q]; decide
    rw [e, if_neg e2, if_pos (by decide)]
    exact ⟨⟨fun q => absurd q hj0, fun _ => ⟨fun _ => trivial, fun q => absurd (by decide) q⟩⟩, rfl, rfl⟩
theorem lneg (n : Nat) (h : n < 4000) : lN n - 4000 < 0 := by
  rw [Int64.lt_iff_toInt_lt, show (4000 : Int64) = lN 4000 from rfl, Int64.toInt_sub, lN_toInt (by omega), lN_toInt (by omega)]
  show Int.bmod ((n : Int) - (4000 : Nat)) (2 ^ 64) < 0
  rw [Int.bmod_eq_of_le (by omega) (by omega)]
  omega
theorem sim_letter : Sim_letter Rel := by
  intro k st mt a hk h
  obtain ⟨n, hn, e1, e2, e3⟩ := h.1.2.2.2.2.2.2.2.2.2.2.1
  have hn31 : n < 2 ^ 31 := by omega
  unfold cPageBoard_letter cSerial_keptByte m_letter o_m_letter
  rw [e1, e2]
  by_cases a0 : a < 0
  · rw [if_pos a0]
    have q1 : ∀ y, m_letter_b28 (sI mt 0 0) a y = (sI mt 0 0, -1) := fun y => by unfold m_letter_b28; rw [if_pos a0]
    have q2 : ∀ y, o_m_letter_b28 (sI mt 0 0) a y := fun y => by unfold o_m_letter_b28; exact ⟨fun _ => trivial, fun q => absurd a0 q⟩
    refine ⟨⟨fun _ => q2 _, fun _ => q2 _⟩, ?_⟩
    rw [q1, q1]
    have q3 : (if lg_cmp (lN n) 4000 ≤ 0 then (sI mt 0 0, (-1 : Int32)) else (sI mt 0 0, -1)) = (sI mt 0 0, -1) := by split <;> rfl
    rw [q3]
    exact ⟨rfl, h.thrown 0⟩
  · obtain ⟨j, hj, rfl⟩ := nI_of a0
    rw [if_neg a0]
    rcases lgc_tri (a := n) (b := 4000) (by omega) (by omega) with ⟨c, e⟩ | ⟨c, e⟩ | ⟨c, e⟩
    · have f0 : (if lN n - 4000 < 0 then (0 : Int64) else lN n - 4000) = lN 0 := by
        have : lN n - 4000 < 0 := lneg n c
        rw [if_pos this]
        rfl
      have e' : lg_cmp (lN n) 4000 = -1 := e
      have p0 : (-1 : Int32) ≤ 0 := by decide
      obtain ⟨r1, r2, r3⟩ := letter_core (st := st) (mt := mt) (f := 0) hn31 hj (Nat.zero_le n) (by omega) e3 e1
      rw [f0, e', if_pos p0]
      refine ⟨⟨fun _ => r1, fun q => absurd p0 q⟩, r2, ?_⟩
      show Rel (k + 1) st (m_letter_b28 (sI mt 0 0) (nI j) (lN 0)).1
      rw [r3]
      exact h.thrown 0
    · have f0 : (if lN n - 4000 < 0 then (0 : Int64) else lN n - 4000) = lN 0 := by
        subst c
        rfl
      have e' : lg_cmp (lN n) 4000 = 0 := e
      have p0 : (0 : Int32) ≤ 0 := by decide
      obtain ⟨r1, r2, r3⟩ := letter_core (st := st) (mt := mt) (f := 0) hn31 hj (Nat.zero_le n) (by omega) e3 e1
      rw [f0, e', if_pos p0]
      refine ⟨⟨fun _ => r1, fun q => absurd p0 q⟩, r2, ?_⟩
      show Rel (k + 1) st (m_letter_b28 (sI mt 0 0) (nI j) (lN 0)).1
      rw [r3]
      exact h.thrown 0
    · have f1 : lN n - 4000 = lN (n - 4000) := lN_sub (b := 4000) (by omega)
      have f0 : ¬ lN (n - 4000) < 0 := fun q => by have := (pk_lLT (a := n - 4000) (b := 0) (by omega) (by omega)).mp q; omega
      have e' : lg_cmp (lN n) 4000 = 1 := e
      have p0 : ¬ (1 : Int32) ≤ 0 := by decide
      obtain ⟨r1, r2, r3⟩ := letter_core (st := st) (mt := mt) (f := n - 4000) hn31 hj (by omega) (by omega) e3 e1
      rw [f1, if_neg f0, e', if_neg p0]
      refine ⟨⟨fun q => absurd q p0, fun _ => r1⟩, r2, ?_⟩
      show Rel (k + 1) st (m_letter_b28 (sI mt 0 0) (nI j) (lN (n - 4000))).1
      rw [r3]
      exact h.thrown 0
