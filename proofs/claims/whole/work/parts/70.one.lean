/-! PURE 30: one STEP ahead of the devices -/
theorem i64_ne (x : Int64) : ¬ x + 1 = x := fun h => by
  have h2 : (1 + x) - x = x - x := by rw [Int64.add_comm 1 x, h]
  rw [Int64.add_sub_cancel, Int64.sub_self] at h2
  exact absurd h2 (by decide)
def sumF (f : Nat → Int64) : Nat → Nat → Int64 → Int64
  | 0, _, x => x
  | r + 1, i, x => sumF f r (i + 1) (x + f i)
theorem sumF_s (f : Nat → Int64) (r i : Nat) (x : Int64) : sumF f (r + 1) i x = sumF f r (i + 1) (x + f i) := rfl
theorem sumF_1 (f : Nat → Int64) : ∀ r i x, sumF f r i (x + 1) = sumF f r i x + 1 := by
  intro r
  induction r with
  | zero => intro i x; rfl
  | succ r ih =>
    intro i x
    rw [sumF_s, sumF_s, ← ih, Int64.add_assoc, Int64.add_comm 1, ← Int64.add_assoc]
theorem sumF_off (f : Nat → Int64) (k : Nat) (v : Int64) : ∀ r i x, k < i → sumF (vp_updL f k v) r i x = sumF f r i x := by
  intro r
  induction r with
  | zero => intro i x _; rfl
  | succ r ih =>
    intro i x h
    rw [sumF_s, sumF_s, ih (i + 1) _ (by omega), pk_uLn (by omega)]
theorem sumF_up (f : Nat → Int64) (k : Nat) : ∀ r i x, i ≤ k → k < i + r → sumF (vp_updL f k (f k + 1)) r i x = sumF f r i x + 1 := by
  intro r
  induction r with
  | zero => intro i x h1 h2; omega
  | succ r ih =>
    intro i x h1 h2
    rw [sumF_s, sumF_s]
    by_cases c : i = k
    · rw [c, pk_uLs, sumF_off f k _ r (k + 1) _ (by omega), ← Int64.add_assoc, sumF_1]
    · rw [pk_uLn c]
      exact ih (i + 1) _ (by omega) (by omega)
theorem l204 (M : CS) (x3 : Int64) (x5 : Int32) : ∀ r i n x, i + r = 7 → r < n → m_one_b204 n M x3 x5 x (nI i) = some (if lg_cmp (sumF (gB M 0) r i x) x3 = 0 then (sI M 1 ((gI M 1 &&& -67108861) ||| gI M 3), x5) else (M, x5)) ∧ o_m_one_b204 n M x3 x5 x (nI i) := by
  intro r
  induction r with
  | zero =>
    intro i n x hi hn
    obtain ⟨n', rfl⟩ : ∃ n', n = n' + 1 := ⟨n - 1, by omega⟩
    obtain rfl : i = 7 := by omega
    have l : (7 : Int32) ≤ nI 7 := by decide
    rw [m_one_b204, o_m_one_b204, if_pos l]
    refine ⟨?_, fun _ => trivial, fun q => absurd l q⟩
    show (if lg_cmp x x3 = 0 then _ else _) = some (if lg_cmp x x3 = 0 then _ else _)
    by_cases c : lg_cmp x x3 = 0
    · rw [if_pos c, if_pos c]
    · rw [if_neg c, if_neg c]
  | succ r ih =>
    intro i n x hi hn
    obtain ⟨n', rfl⟩ : ∃ n', n = n' + 1 := ⟨n - 1, by omega⟩
    have l : ¬ (7 : Int32) ≤ nI i := nI_ge (b := 7) (by omega) (by decide)
    obtain ⟨a, b⟩ := ih (i + 1) n' (x + gB M 0 i) (by omega) (by omega)
    rw [m_one_b204, o_m_one_b204, if_neg l, nI_clamp (by omega), nI_1, sumF_s]
    exact ⟨a, fun q => absurd q l, fun _ => ⟨vp_in_nI (by omega) (by decide), b⟩⟩
theorem l168 (M : CS) (w : Int32) : ∀ r i n x, i + r = 7 → r < n → m_one_b168 n M w x (nI i) = some (m_one_b196 (m_perform M w).1 (sumF (gB M 0) r i x) (m_perform M w).2) ∧ (o_m_perform M w ∧ o_m_one_b196 (m_perform M w).1 (sumF (gB M 0) r i x) (m_perform M w).2 → o_m_one_b168 n M w x (nI i)) := by
  intro r
  induction r with
  | zero =>
    intro i n x hi hn
    obtain ⟨n', rfl⟩ : ∃ n', n = n' + 1 := ⟨n - 1, by omega⟩
    obtain rfl : i = 7 := by omega
    have l : (7 : Int32) ≤ nI 7 := by decide
    rw [m_one_b168, o_m_one_b168, if_pos l]
    exact ⟨rfl, fun o => ⟨fun _ => o, fun q => absurd l q⟩⟩
  | succ r ih =>
    intro i n x hi hn
    obtain ⟨n', rfl⟩ : ∃ n', n = n' + 1 := ⟨n - 1, by omega⟩
    have l : ¬ (7 : Int32) ≤ nI i := nI_ge (b := 7) (by omega) (by decide)
    obtain ⟨a, b⟩ := ih (i + 1) n' (x + gB M 0 i) (by omega) (by omega)
    rw [m_one_b168, o_m_one_b168, if_neg l, nI_clamp (by omega), nI_1, sumF_s]
    exact ⟨a, fun o => ⟨fun q => absurd q l, fun _ => ⟨vp_in_nI (by omega) (by decide), b o⟩⟩⟩
/-- what a STEP leaves ahead of the devices -/
def Fin (N : Nat) (mt : CS) (c m : CS × Int32) : Prop := c.2 = m.2 ∧ (∃ t, 1 ≤ t ∧ t ≤ 40 ∧ m.2 = nI t) ∧ RK N c.1 m.1 ∧ gI m.1 0 = gI mt 0 ∧ gA c.1 1 15 = gI m.1 1
theorem b196_eq {N : Nat} {mt : CS} {c m : CS × Int32} (h : Dn N mt c m) : o_m_one_b196 m.1 (sumF (gB mt 0) 7 0 0) m.2 ∧ Fin N mt c (m_one_b196 m.1 (sumF (gB mt 0) 7 0 0) m.2) := by
  obtain ⟨a1, a2, a3, a4, a5⟩ := h
  obtain ⟨l1, l2⟩ := l204 m.1 (sumF (gB mt 0) 7 0 0) m.2 7 0 8 0 rfl (by omega)
  have l1' : m_one_b204 8 m.1 (sumF (gB mt 0) 7 0 0) m.2 0 0 = some (if lg_cmp (sumF (gB m.1 0) 7 0 0) (sumF (gB mt 0) 7 0 0) = 0 then (sI m.1 1 ((gI m.1 1 &&& -67108861) ||| gI m.1 3), m.2) else (m.1, m.2)) := l1
  unfold o_m_one_b196 m_one_b196 m_one_b204t o_m_one_b204t
  rw [l1']
  refine ⟨⟨l2, _, rfl⟩, ?_⟩
  show Fin N mt c (if lg_cmp (sumF (gB m.1 0) 7 0 0) (sumF (gB mt 0) 7 0 0) = 0 then (sI m.1 1 ((gI m.1 1 &&& -67108861) ||| gI m.1 3), m.2) else (m.1, m.2))
  rcases a5 with ⟨b1, b2⟩ | ⟨b1, k, hk, b2⟩
  · rw [b2, if_pos ((lgc_0 _ _).mpr rfl)]
    exact ⟨a1, a2, a3.fr (Fr.rf _ _ _ _) (Fr.sI _ _ _ _ _ _ (by decide)), a4, b1⟩
  · have n : ¬ lg_cmp (sumF (gB m.1 0) 7 0 0) (sumF (gB mt 0) 7 0 0) = 0 := fun q => by
      have e := (lgc_0 _ _).mp q
      rw [b2, sumF_up _ _ 7 0 0 (by omega) (by omega)] at e
      exact i64_ne _ e
    rw [if_neg n]
    exact ⟨a1, a2, a3, a4, b1⟩
theorem trap_fin {N : Nat} {st mt : CS} (h : RK N st mt) (hs : SG st mt) (h2 : gI st 31 = gI mt 2) {k : Nat} (hk : k < 7) : o_m_trap mt (nI k) (nI (trM k)) (nI (4 * k + 4)) (trA k) ∧ Fin N mt (cProcessor_take st (nI k)) (m_trap mt (nI k) (nI (trM k)) (nI (4 * k + 4)) (trA k)) := by
  obtain ⟨t1, a1, a2, a3, a4, a5⟩ := trap_eq h hs h2 hk
  refine ⟨t1, a1, a2, a3, a4, ?_⟩
  rcases a5 with ⟨b1, b2⟩ | ⟨b1, b2⟩
  · exfalso
    rw [(trap_is mt hk (trM k) (4 * k + 4) (trA k)).1] at b2
    have e : gB (m_give (trK mt k (trM k) (4 * k + 4) (decide (k = 6))) (nI (trM k)) 14 ((gI mt 1 &&& -67108861) ||| m_ahead mt (trA k))) 0 = gB mt 0 := b2
    rw [gB_give] at e
    have f : vp_updL (gB mt 0) k (gB mt 0 k + 1) = gB mt 0 := e
    have g := congrFun f k
    rw [pk_uLs] at g
    exact i64_ne _ g
  · exact b1
/-- the class's STEP ahead of the devices -/
def cOne (st : CS) : CS × Int32 := if (cProcessor_trapAhead st).2 = -1 then cProcessor_instruction (cProcessor_trapAhead st).1 else cProcessor_take (cProcessor_trapAhead st).1 (cProcessor_trapAhead st).2
theorem Fin.to {N N' : Nat} {M mt : CS} {c m : CS × Int32} (h : Fin N M c m) (hN : N ≤ N') (h0 : gI M 0 = gI mt 0) : Fin N' mt c m := ⟨h.1, h.2.1, h.2.2.1.mono hN, h.2.2.2.1.trans h0, h.2.2.2.2⟩
theorem RK.unmet {N : Nat} {st mt : CS} (h : RK N st mt) : RK N (sL st 5 (gL st 5 + 1)) (sL mt 5 (gL mt 5 + 1)) := by
  obtain ⟨h1, h2, h3, h4, h5, h6, h7, h8, h9, h10, h11, ⟨q1, q2, q3, q4, q5, q6, q7⟩⟩ := h
  refine ⟨h1, h2, h3, h4, h5, h6, h7, h8, h9, h10, h11, ⟨q1, q2, q3, q4, ?_, q6, q7⟩⟩
  show gL st 5 + 1 = gL mt 5 + 1
  rw [q5]
theorem RK.steps {N : Nat} {st mt : CS} (h : RK N st mt) : RK N (sL st 1 (gL st 1 + 1)) (sL mt 3 (gL mt 3 + 1)) := by
  obtain ⟨h1, h2, h3, h4, h5, h6, h7, h8, h9, h10, h11, ⟨q1, q2, q3, q4, q5, q6, q7⟩⟩ := h
  refine ⟨h1, h2, h3, h4, h5, h6, h7, h8, h9, h10, h11, ⟨q1, ?_, q3, q4, q5, q6, q7⟩⟩
  show gL st 1 + 1 = gL mt 3 + 1
  rw [q2]
/-- the word fetched, and what is done with it -/
theorem ins_eq {N : Nat} (hN : N + 16 < 2 ^ 30) {S M : CS} (hK : RK N S M) (h15 : gA S 1 15 = gI M 1) (h2 : gI S 31 = gI M 2) : o_m_one_b114 M (gI S 32) ∧ Fin (N + 16) M (cProcessor_instruction S) (m_one_b114 M (gI S 32)) := by
  have hI : RI N (gI S 32) (cRegisters_goTo S (gI S 31 + 4)) (sI M 3 (m_ahead M 4)) := by
    refine ⟨(hK.fr (Fr.rf _ _ _ _) (Fr.sI _ _ _ _ _ _ (by decide))).r15 _, ?_, pcn_and (gI M 2 + 4), h2, rfl⟩
    show (gA S 1 15 &&& -67108861) ||| ((gI S 31 + 4) &&& 67108860) = (gI M 1 &&& -67108861) ||| ((gI M 2 + 4) &&& 67108860)
    rw [h15, h2]
  have hw : gI (cRegisters_goTo S (gI S 31 + 4)) 32 = gI S 32 := rfl
  unfold cProcessor_instruction
  rw [b13_is, hw, so_eq hI.sg]
  unfold o_m_one_b114 m_one_b114
  by_cases c : m_isSo (sI M 3 (m_ahead M 4)) (ushr (gI S 32) 28) = 0
  · rw [if_pos c, if_pos c]
    refine ⟨⟨fun _ => trivial, fun q => absurd c q⟩, rfl, ⟨1, by omega, by omega, rfl⟩, ?_, rfl, ?_⟩
    · have a := hI.1.unmet.mono (M := N + 16) (by omega)
      have b := a.fr (Fr.rf _ _ _ _) (Fr.sI _ _ _ _ 1 ((gI M 1 &&& -67108861) ||| m_ahead M 4) (by decide))
      exact b
    · exact hI.2.1
  · rw [if_neg c, if_neg c]
    obtain ⟨p1, p2⟩ := perf_eq hN hI
    obtain ⟨q1, q2⟩ := b196_eq p2
    obtain ⟨l1, l2⟩ := l168 (sI M 3 (m_ahead M 4)) (gI S 32) 7 0 8 0 rfl (by omega)
    have l1' : m_one_b168 8 (sI M 3 (m_ahead M 4)) (gI S 32) 0 0 = some (m_one_b196 (m_perform (sI M 3 (m_ahead M 4)) (gI S 32)).1 (sumF (gB (sI M 3 (m_ahead M 4)) 0) 7 0 0) (m_perform (sI M 3 (m_ahead M 4)) (gI S 32)).2) := l1
    unfold m_one_b168t o_m_one_b168t
    rw [l1']
    exact ⟨⟨fun q => absurd q c, fun _ => ⟨l2 ⟨p1, q1⟩, _, rfl⟩⟩, Fin.to q2 (Nat.le_refl _) rfl⟩
theorem one_eq {N : Nat} (hN : N + 16 < 2 ^ 30) {st mt : CS} (h : RR N st mt) : o_m_one mt ∧ Fin (N + 16) mt (cOne st) (m_one mt) := by
  obtain ⟨S, eS⟩ : ∃ S, S = sI st 31 (cRegisters_pc st) := ⟨_, rfl⟩
  obtain ⟨M, eM⟩ : ∃ M, M = sI mt 2 (gI mt 1 &&& 67108860) := ⟨_, rfl⟩
  have hK : RK N S M := by
    rw [eS, eM]
    exact h.1.fr (Fr.sI _ _ _ _ _ _ (by decide)) (Fr.sI _ _ _ _ _ _ (by decide))
  have h15 : gA S 1 15 = gI M 1 := by rw [eS, eM]; exact h.2
  have hs : SG S M := by unfold SG; rw [h15]
  have h2 : gI S 31 = gI M 2 := by
    rw [eS, eM]
    show gA st 1 15 &&& 67108860 = gI mt 1 &&& 67108860
    rw [h.2]
  have h0 : gI M 0 = gI mt 0 := by rw [eM]; rfl
  have eF := fiq_eq hK.2.2.2.1
  have eI := irq_eq hK.2.2.2.1
  have h26 : cRegisters_has S 67108864 = m_is M 26 := sg_has hs 26 (by decide) (by decide)
  have h27 : cRegisters_has S 134217728 = m_is M 27 := sg_has hs 27 (by decide) (by decide)
  -- the fetch
  have B64 : o_m_one_b64 M ∧ Fin (N + 16) mt (if (cProcessor_trapAhead_b60 S).2 = -1 then cProcessor_instruction (cProcessor_trapAhead_b60 S).1 else cProcessor_take (cProcessor_trapAhead_b60 S).1 (cProcessor_trapAhead_b60 S).2) (m_one_b64 M) := by
    obtain ⟨a, ha, ea⟩ : ∃ a, a < 67108864 ∧ gI M 2 = nI a := by
      refine ⟨(gI mt 1).toBitVec.toNat % 67108864 / 4 * 4, by omega, ?_⟩
      rw [← and_pc _ (gI mt 1).toBitVec.isLt, nI_tn, eM]
      rfl
    obtain ⟨f1, f2, f3⟩ := find_spec hK.2.2.1 (m_mode M) 0 ha
    unfold cProcessor_trapAhead_b60 m_one_b64 o_m_one_b64
    rw [sg_mode hs, h2, ea]
    have go : ∀ v, o_m_one_b114 M v ∧ Fin (N + 16) mt (cProcessor_instruction (sI S 32 v)) (m_one_b114 M v) := fun v => by
      obtain ⟨i1, i2⟩ := ins_eq hN (S := sI S 32 v) (M := M) (hK.fr (Fr.sI _ _ _ _ _ _ (by decide)) (Fr.rf _ _ _ _)) h15 h2
      exact ⟨i1, Fin.to i2 (Nat.le_refl _) h0⟩
    have n1 : ¬ (2 : Int32) = -1 := by decide
    rcases f3 with ⟨g1, g2⟩ | ⟨g1, k, hk, hka, g2, g3⟩ | ⟨g1, g2, g3, g4⟩
    · obtain ⟨t1, t2⟩ := trap_fin hK hs h2 (k := 2) (by decide)
      rw [if_pos g1, if_pos g2]
      refine ⟨⟨f1, fun _ => ⟨t1, trivial⟩, fun q => absurd g2 q⟩, ?_⟩
      show Fin (N + 16) mt (if (2 : Int32) = -1 then _ else _) _
      rw [if_neg n1]
      exact Fin.to t2 (by omega) h0
    · have nF : ¬ cBus_find S (m_mode M) (nI a) 0 = -1 := by rw [g2]; exact nI_m1 (by omega)
      have nW : ¬ m_wordAt M (nI a) = -1 := by rw [g3]; exact nI_m1 (by omega)
      obtain ⟨i1, i2⟩ := go (gA M 5 k)
      have e : cBus_fetch S (cBus_find S (m_mode M) (nI a) 0) = gA M 5 k := by
        unfold cBus_fetch
        rw [g2, if_neg (m_inw hk), nI_clamp (by omega)]
        exact hK.2.1.1 k hk
      have e2 : gA M 5 (m_wordAt M (nI a)).toNatClampNeg = gA M 5 k := by rw [g3, nI_clamp (by omega)]
      rw [if_neg nF, if_neg g1, if_neg nW, e, e2]
      refine ⟨⟨f1, fun q => absurd q g1, fun _ => ⟨f2, fun q => absurd q nW, fun _ => ⟨by rw [g3]; exact vp_in_nI hk (by decide), i1⟩⟩⟩, ?_⟩
      show Fin (N + 16) mt (if (-1 : Int32) = -1 then _ else _) _
      rw [if_pos rfl]
      exact i2
    · have nF : ¬ cBus_find S (m_mode M) (nI a) 0 = -1 := by rw [g3]; decide
      obtain ⟨i1, i2⟩ := go 0
      have e : cBus_fetch S (cBus_find S (m_mode M) (nI a) 0) = 0 := by
        unfold cBus_fetch
        rw [g3, if_pos m_in2]
      rw [if_neg nF, if_neg g1, if_pos g4, e]
      refine ⟨⟨f1, fun q => absurd q g1, fun _ => ⟨f2, fun _ => i1, fun q => absurd g4 q⟩⟩, ?_⟩
      show Fin (N + 16) mt (if (-1 : Int32) = -1 then _ else _) _
      rw [if_pos rfl]
      exact i2
  have n5 : ¬ (5 : Int32) = -1 := by decide
  have n6 : ¬ (6 : Int32) = -1 := by decide
  have B38 : o_m_one_b38 M ∧ Fin (N + 16) mt (if (cProcessor_trapAhead_b36 S).2 = -1 then cProcessor_instruction (cProcessor_trapAhead_b36 S).1 else cProcessor_take (cProcessor_trapAhead_b36 S).1 (cProcessor_trapAhead_b36 S).2) (m_one_b38 M) := by
    unfold cProcessor_trapAhead_b36 m_one_b38 o_m_one_b38
    rw [eI, h27]
    by_cases c : m_irqLine M = 0
    · rw [if_pos c, if_pos c]
      exact ⟨⟨fun _ => B64.1, fun q => absurd c q⟩, B64.2⟩
    · rw [if_neg c, if_neg c]
      by_cases d : m_is M 27 = 0
      · obtain ⟨t1, t2⟩ := trap_fin hK hs h2 (k := 5) (by decide)
        rw [if_pos d, if_pos d]
        refine ⟨⟨fun q => absurd q c, fun _ => ⟨fun _ => ⟨t1, trivial⟩, fun q => absurd d q⟩⟩, ?_⟩
        show Fin (N + 16) mt (if (5 : Int32) = -1 then _ else _) _
        rw [if_neg n5]
        exact Fin.to t2 (by omega) h0
      · rw [if_neg d, if_neg d]
        exact ⟨⟨fun q => absurd q c, fun _ => ⟨fun q => absurd q d, fun _ => B64.1⟩⟩, B64.2⟩
  unfold cOne cProcessor_trapAhead m_one o_m_one
  rw [← eS, ← eM, eF, h26]
  by_cases c : m_fiqLine M = 0
  · rw [if_pos c, if_pos c]
    exact ⟨⟨fun _ => B38.1, fun q => absurd c q⟩, B38.2⟩
  · rw [if_neg c, if_neg c]
    by_cases d : m_is M 26 = 0
    · obtain ⟨t1, t2⟩ := trap_fin hK hs h2 (k := 6) (by decide)
      rw [if_pos d, if_pos d]
      refine ⟨⟨fun q => absurd q c, fun _ => ⟨fun _ => ⟨t1, trivial⟩, fun q => absurd d q⟩⟩, ?_⟩
      show Fin (N + 16) mt (if (6 : Int32) = -1 then _ else _) _
      rw [if_neg n6]
      exact Fin.to t2 (by omega) h0
    · rw [if_neg d, if_neg d]
      exact ⟨⟨fun q => absurd q c, fun _ => ⟨fun q => absurd q d, fun _ => B38.1⟩⟩, B38.2⟩
