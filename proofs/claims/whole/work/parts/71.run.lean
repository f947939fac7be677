/-! PURE 31: a STEP whole; step and run -/
theorem wh_loop (M : CS) {t : Nat} (ht : t < 2 ^ 31) (ho : ∀ j, j < t → o_m_tick (tk j M)) : ∀ r j n, j + r = t → r < n → m_whole_b17 n (tk j M) (nI t) (nI j) = some (tk t M, nI t) ∧ o_m_whole_b17 n (tk j M) (nI t) (nI j) := by
  intro r
  induction r with
  | zero =>
    intro j n hj hn
    obtain ⟨n', rfl⟩ : ∃ n', n = n' + 1 := ⟨n - 1, by omega⟩
    obtain rfl : j = t := by omega
    have l : nI j ≤ nI j := nI_le (Nat.le_refl j) ht
    rw [m_whole_b17, o_m_whole_b17, if_pos l]
    exact ⟨rfl, fun _ => trivial, fun q => absurd l q⟩
  | succ r ih =>
    intro j n hj hn
    obtain ⟨n', rfl⟩ : ∃ n', n = n' + 1 := ⟨n - 1, by omega⟩
    have l : ¬ nI t ≤ nI j := nI_ge (by omega) ht
    obtain ⟨a, b⟩ := ih (j + 1) n' (by omega) (by omega)
    rw [m_whole_b17, o_m_whole_b17, if_neg l]
    unfold m_whole_b26 o_m_whole_b26
    rw [nI_1]
    exact ⟨a, fun q => absurd q l, fun _ => ⟨ho j (by omega), b⟩⟩
theorem whole_eq {N : Nat} (hN : N + 56 < 2 ^ 30) {st mt : CS} (h : RR N st mt) : o_m_whole mt ∧ ∃ t, 1 ≤ t ∧ t ≤ 40 ∧ (cPageBoard_oneStep st).2 = nI t ∧ (m_whole mt).2 = nI t ∧ RR (N + 56) (cPageBoard_oneStep st).1 (m_whole mt).1 ∧ gI (m_whole mt).1 0 = gI mt 0 := by
  obtain ⟨o1, f1, ⟨t, t1, t2, t3⟩, f3, f4, f5⟩ := one_eq (by omega) h
  have eC : cPageBoard_oneStep st = cPageBoard_oneStep_b31 (cOne st).1 (cOne st).2 := by
    unfold cPageBoard_oneStep cPageBoard_oneStep_b7 cPageBoard_oneStep_b20 cOne
    by_cases c : (cProcessor_trapAhead st).2 = -1
    · rw [if_pos c, if_pos c]
    · rw [if_neg c, if_neg c]
  obtain ⟨M, eM⟩ : ∃ M, M = sL (m_one mt).1 3 (gL (m_one mt).1 3 + 1) := ⟨_, rfl⟩
  have hK : RK (N + 16) (sL (cOne st).1 1 (gL (cOne st).1 1 + 1)) M := by
    rw [eM]
    exact f3.steps
  obtain ⟨g1, g2, g3, g4, g5, g6⟩ := goOn_eq (t := t) hK (by omega) t2
  obtain ⟨w1, w2⟩ := wh_loop M (by omega) g6 t 0 (t + 1) (by omega) (by omega)
  have w1' : m_whole_b17 (t + 1) M (nI t) 0 = some (tk t M, nI t) := w1
  have eW : m_whole mt = (tk t M, nI t) := by
    unfold m_whole m_whole_b4 m_whole_b17t
    rw [t3, ← eM, nI_clamp (by omega), w1']
    rfl
  have eC2 : cPageBoard_oneStep st = (cPageBoard_devicesGoOn (sL (sL (cOne st).1 1 (gL (cOne st).1 1 + 1)) 0 (gL (cOne st).1 0 + lN t)) (nI t), nI t) := by
    rw [eC, f1, t3]
    unfold cPageBoard_oneStep_b31
    rw [nI_l (by omega)]
  refine ⟨⟨o1, ?_⟩, t, t1, t2, by rw [eC2], by rw [eW], ?_, ?_⟩
  · unfold o_m_whole_b4 o_m_whole_b17t
    rw [t3, ← eM, nI_clamp (by omega)]
    exact ⟨w2, _, w1'⟩
  · rw [eC2, eW]
    have g7 : gI M 1 = gI (m_one mt).1 1 := by rw [eM]; rfl
    exact ⟨RK.mono g1 (by omega), (congrFun g2 15).trans (f5.trans (g3.trans g7).symm)⟩
  · rw [eW]
    have g7 : gI M 0 = gI (m_one mt).1 0 := by rw [eM]; rfl
    exact (g5.trans g7).trans f4
theorem stops_eq {N : Nat} {st mt : CS} (h : RR N st mt) : cPageBoard_isAtStop st = m_stops mt := by
  obtain ⟨⟨_, _, _, _, _, _, _, _, _, _, _, q1, q2, q3, q4, q5, q6, q7⟩, h15⟩ := h
  unfold cPageBoard_isAtStop m_stops cRegisters_pc
  have e : gA st 1 (15 : Int32).toNatClampNeg = gI mt 1 := h15
  rw [e, q7]
  by_cases c : gI mt 24 = -1
  · have n : ¬ gI mt 1 &&& 67108860 = -1 := fun q => by
      have a := congrArg (fun y => bt y 0) q
      have b : (bt (gI mt 1) 0 && bt 67108860 0) = bt (-1) 0 := by rw [← b_and]; exact a
      rw [show bt 67108860 0 = false by decide, show bt (-1) 0 = true by decide, Bool.and_false] at b
      exact absurd b (by decide)
    rw [if_pos c, c, if_neg n]
  · rw [if_neg c]
theorem st_loop {mt : CS} {N n : Nat} (hn : n ≤ 5000) (hN : N + 56 * n < 2 ^ 30) : ∀ r d f S M, d + r = n → 1 ≤ r → r < f → RR (N + 56 * d) S M → gI M 0 = gI mt 0 → ∃ S' M' x, cPageBoard_step_b24 f S (nI n) (nI (d + 1)) = some (S', x) ∧ m_step_b25 f M (nI n) (nI d) 1 = some (M', x) ∧ o_m_step_b25 f M (nI n) (nI d) 1 ∧ RR (N + 56 * n) S' M' ∧ gI M' 0 = gI mt 0 := by
  have z : ¬ (1 : Int32) = 0 := by decide
  intro r
  induction r with
  | zero => intro d f S M h1 h2; omega
  | succ r ih =>
    intro d f S M hd _ hf hR h0
    obtain ⟨f', rfl⟩ : ∃ f', f = f' + 1 := ⟨f - 1, by omega⟩
    obtain ⟨o1, t, t1, t2, c1, m1, r1, g0⟩ := whole_eq (N := N + 56 * d) (by omega) hR
    have r1' : RR (N + 56 * (d + 1)) (cPageBoard_oneStep S).1 (m_whole M).1 := ⟨r1.1.mono (by omega), r1.2⟩
    have R1 : RR (N + 56 * n) (cPageBoard_oneStep S).1 (m_whole M).1 := ⟨r1.1.mono (by omega), r1.2⟩
    have lt : ¬ nI n < nI (d + 1) := nI_nlt (by omega) (by omega)
    have t0 : ¬ nI t ≤ 0 := nI_nle (by omega) (by omega)
    have E1 : cPageBoard_step_b24 (f' + 1) S (nI n) (nI (d + 1)) = (if m_stops (m_whole M).1 = 0 then cPageBoard_step_b24 f' (cPageBoard_oneStep S).1 (nI n) (nI (d + 1 + 1)) else some ((cPageBoard_oneStep S).1, nI (d + 1))) := by
      rw [cPageBoard_step_b24, if_neg lt]
      unfold cPageBoard_step_b33
      rw [stops_eq r1, nI_1]
    have E2 : m_step_b25 (f' + 1) M (nI n) (nI d) 1 = (if nI n ≤ nI (d + 1) then m_step_b25 f' (m_whole M).1 (nI n) (nI (d + 1)) 0 else if m_stops (m_whole M).1 = 0 then m_step_b25 f' (m_whole M).1 (nI n) (nI (d + 1)) 1 else m_step_b25 f' (m_whole M).1 (nI n) (nI (d + 1)) 0) := by
      rw [m_step_b25, if_neg z]
      unfold m_step_b33 m_step_b59 m_step_b60
      rw [m1, if_neg t0, nI_1]
    have E3 : (nI n ≤ nI (d + 1) → o_m_step_b25 f' (m_whole M).1 (nI n) (nI (d + 1)) 0) → (¬ nI n ≤ nI (d + 1) → m_stops (m_whole M).1 = 0 → o_m_step_b25 f' (m_whole M).1 (nI n) (nI (d + 1)) 1) → (¬ nI n ≤ nI (d + 1) → ¬ m_stops (m_whole M).1 = 0 → o_m_step_b25 f' (m_whole M).1 (nI n) (nI (d + 1)) 0) → o_m_step_b25 (f' + 1) M (nI n) (nI d) 1 := by
      intro p1 p2 p3
      rw [o_m_step_b25]
      unfold o_m_step_b33 o_m_step_b59 o_m_step_b60
      rw [m1, nI_1]
      exact ⟨fun q => absurd q z, fun _ => ⟨o1, fun q => absurd q t0, fun _ => ⟨p1, fun a => ⟨p2 a, p3 a⟩⟩⟩⟩
    have Z : ∀ M1 x y, m_step_b25 f' M1 x y 0 = some (M1, y) ∧ o_m_step_b25 f' M1 x y 0 := by
      obtain ⟨f2, rfl⟩ : ∃ f2, f' = f2 + 1 := ⟨f' - 1, by omega⟩
      intro M1 x y
      rw [m_step_b25, o_m_step_b25, if_pos rfl]
      exact ⟨rfl, fun _ => trivial, fun q => absurd rfl q⟩
    rw [E1, E2]
    by_cases c : n ≤ d + 1
    · have le : nI n ≤ nI (d + 1) := nI_le c (by omega)
      have O := E3 (fun _ => (Z _ _ _).2) (fun q => absurd le q) (fun q => absurd le q)
      rw [if_pos le, (Z _ _ _).1]
      by_cases s : m_stops (m_whole M).1 = 0
      · have lt2 : nI n < nI (d + 1 + 1) := nI_lt (by omega) (by omega)
        have C : cPageBoard_step_b24 f' (cPageBoard_oneStep S).1 (nI n) (nI (d + 1 + 1)) = some ((cPageBoard_oneStep S).1, nI (d + 1)) := by
          obtain ⟨f2, rfl⟩ : ∃ f2, f' = f2 + 1 := ⟨f' - 1, by omega⟩
          rw [cPageBoard_step_b24, if_pos lt2, show n = d + 1 by omega]
        rw [if_pos s, C]
        exact ⟨_, _, _, rfl, rfl, O, R1, g0.trans h0⟩
      · rw [if_neg s]
        exact ⟨_, _, _, rfl, rfl, O, R1, g0.trans h0⟩
    · have nle : ¬ nI n ≤ nI (d + 1) := nI_ge (by omega) (by omega)
      rw [if_neg nle]
      by_cases s : m_stops (m_whole M).1 = 0
      · obtain ⟨S', M', x, a1, a2, a3, a4, a5⟩ := ih (d + 1) f' (cPageBoard_oneStep S).1 (m_whole M).1 (by omega) (by omega) (by omega) r1' (g0.trans h0)
        rw [if_pos s, if_pos s]
        exact ⟨S', M', x, a1, a2, E3 (fun q => absurd q nle) (fun _ _ => a3) (fun _ q => absurd s q), a4, a5⟩
      · rw [if_neg s, if_neg s, (Z _ _ _).1]
        exact ⟨_, _, _, rfl, rfl, E3 (fun q => absurd q nle) (fun _ q => absurd q s) (fun _ _ => (Z _ _ _).2), R1, g0.trans h0⟩
theorem rn_loop {mt : CS} {N W : Nat} (hW : W ≤ 20000) (hN : N + 56 * W < 2 ^ 30) : ∀ R r g d f S M, r ≤ R → g + r = W → 1 ≤ r → d ≤ g → r < f → RR (N + 56 * d) S M → gI M 0 = gI mt 0 → ∃ S' M' x, cPageBoard_run_b26 f S (nI W) (nI g) (nI d) = some (S', x) ∧ m_run_b28 f M (nI W) (nI d) (nI g) 1 = some (M', x) ∧ o_m_run_b28 f M (nI W) (nI d) (nI g) 1 ∧ RR (N + 56 * W) S' M' ∧ gI M' 0 = gI mt 0 := by
  have z : ¬ (1 : Int32) = 0 := by decide
  intro R
  induction R with
  | zero => intro r g d f S M h1 h2 h3; omega
  | succ R ih =>
    intro r g d f S M hr hg hr1 hdg hf hR h0
    obtain ⟨f', rfl⟩ : ∃ f', f = f' + 1 := ⟨f - 1, by omega⟩
    obtain ⟨o1, t, t1, t2, c1, m1, r1, g0⟩ := whole_eq (N := N + 56 * d) (by omega) hR
    have r1' : RR (N + 56 * (d + 1)) (cPageBoard_oneStep S).1 (m_whole M).1 := ⟨r1.1.mono (by omega), r1.2⟩
    have R1 : RR (N + 56 * W) (cPageBoard_oneStep S).1 (m_whole M).1 := ⟨r1.1.mono (by omega), r1.2⟩
    have n1 : ¬ nI W ≤ nI d := nI_ge (by omega) (by omega)
    have n2 : ¬ nI W ≤ nI g := nI_ge (by omega) (by omega)
    have E1 : cPageBoard_run_b26 (f' + 1) S (nI W) (nI g) (nI d) = (if m_stops (m_whole M).1 = 0 then cPageBoard_run_b26 f' (cPageBoard_oneStep S).1 (nI W) (nI (g + t)) (nI (d + 1)) else some ((cPageBoard_oneStep S).1, nI (d + 1))) := by
      rw [cPageBoard_run_b26, if_neg n1, if_neg n2]
      unfold cPageBoard_run_b41
      rw [stops_eq r1, c1, nI_add, nI_1]
    have E2 : m_run_b28 (f' + 1) M (nI W) (nI d) (nI g) 1 = (if nI W ≤ nI (g + t) then m_run_b28 f' (m_whole M).1 (nI W) (nI (d + 1)) (nI (g + t)) 0 else if m_stops (m_whole M).1 = 0 then m_run_b28 f' (m_whole M).1 (nI W) (nI (d + 1)) (nI (g + t)) 1 else m_run_b28 f' (m_whole M).1 (nI W) (nI (d + 1)) (nI (g + t)) 0) := by
      rw [m_run_b28, if_neg z]
      unfold m_run_b38 m_run_b59 m_run_b60
      rw [m1, nI_add, nI_1]
    have E3 : (nI W ≤ nI (g + t) → o_m_run_b28 f' (m_whole M).1 (nI W) (nI (d + 1)) (nI (g + t)) 0) → (¬ nI W ≤ nI (g + t) → m_stops (m_whole M).1 = 0 → o_m_run_b28 f' (m_whole M).1 (nI W) (nI (d + 1)) (nI (g + t)) 1) → (¬ nI W ≤ nI (g + t) → ¬ m_stops (m_whole M).1 = 0 → o_m_run_b28 f' (m_whole M).1 (nI W) (nI (d + 1)) (nI (g + t)) 0) → o_m_run_b28 (f' + 1) M (nI W) (nI d) (nI g) 1 := by
      intro p1 p2 p3
      rw [o_m_run_b28]
      unfold o_m_run_b38 o_m_run_b59 o_m_run_b60
      rw [m1, nI_add, nI_1]
      exact ⟨fun q => absurd q z, fun _ => ⟨o1, p1, fun a => ⟨p2 a, p3 a⟩⟩⟩
    have Z : ∀ M1 x y v, m_run_b28 f' M1 x y v 0 = some (M1, y) ∧ o_m_run_b28 f' M1 x y v 0 := by
      obtain ⟨f2, rfl⟩ : ∃ f2, f' = f2 + 1 := ⟨f' - 1, by omega⟩
      intro M1 x y v
      rw [m_run_b28, o_m_run_b28, if_pos rfl]
      exact ⟨rfl, fun _ => trivial, fun q => absurd rfl q⟩
    rw [E1, E2]
    by_cases c : W ≤ g + t
    · have le : nI W ≤ nI (g + t) := nI_le c (by omega)
      have O := E3 (fun _ => (Z _ _ _ _).2) (fun q => absurd le q) (fun q => absurd le q)
      rw [if_pos le, (Z _ _ _ _).1]
      by_cases s : m_stops (m_whole M).1 = 0
      · have C : cPageBoard_run_b26 f' (cPageBoard_oneStep S).1 (nI W) (nI (g + t)) (nI (d + 1)) = some ((cPageBoard_oneStep S).1, nI (d + 1)) := by
          obtain ⟨f2, rfl⟩ : ∃ f2, f' = f2 + 1 := ⟨f' - 1, by omega⟩
          rw [cPageBoard_run_b26, if_pos le]
          by_cases y : nI W ≤ nI (d + 1)
          · rw [if_pos y]
          · rw [if_neg y]
        rw [if_pos s, C]
        exact ⟨_, _, _, rfl, rfl, O, R1, g0.trans h0⟩
      · rw [if_neg s]
        exact ⟨_, _, _, rfl, rfl, O, R1, g0.trans h0⟩
    · have nle : ¬ nI W ≤ nI (g + t) := nI_ge (by omega) (by omega)
      rw [if_neg nle]
      by_cases s : m_stops (m_whole M).1 = 0
      · obtain ⟨S', M', x, a1, a2, a3, a4, a5⟩ := ih (r - t) (g + t) (d + 1) f' (cPageBoard_oneStep S).1 (m_whole M).1 (by omega) (by omega) (by omega) (by omega) (by omega) r1' (g0.trans h0)
        rw [if_pos s, if_pos s]
        exact ⟨S', M', x, a1, a2, E3 (fun q => absurd q nle) (fun _ _ => a3) (fun _ q => absurd s q), a4, a5⟩
      · rw [if_neg s, if_neg s, (Z _ _ _ _).1]
        exact ⟨_, _, _, rfl, rfl, E3 (fun q => absurd q nle) (fun _ q => absurd q s) (fun _ _ => (Z _ _ _ _).2), R1, g0.trans h0⟩
theorem wt (a B : Int32) (b : Nat) (hB : B = nI b) (hb : b < 2 ^ 31) : (a < 1 ∧ m_within a 1 B = 0) ∨ (¬ a < 1 ∧ ¬ a ≤ B ∧ m_within a 1 B = 0) ∨ (∃ n, 1 ≤ n ∧ n ≤ b ∧ a = nI n ∧ ¬ a < 1 ∧ a ≤ B ∧ ¬ m_within a 1 B = 0) := by
  by_cases p : a < 1
  · exact Or.inl ⟨p, (within_iff _ _ _).mpr (fun q => Int32.not_le.mpr p q.1)⟩
  · by_cases q : a ≤ B
    · have h0 : ¬ a < 0 := fun r => p (i_lt.mpr (by
        have r' : a.toInt < 0 := i_lt.mp r
        show a.toInt < 1
        omega))
      obtain ⟨n, hn, e⟩ := nI_of h0
      refine Or.inr (Or.inr ⟨n, ?_, ?_, e, p, q, fun w => (within_iff _ _ _).mp w ⟨Int32.not_lt.mp p, q⟩⟩)
      · by_cases c : n = 0
        · exact absurd (show a < 1 by rw [e, c]; decide) p
        · omega
      · rw [e, hB] at q
        exact (nI_leI hn hb).mp q
    · exact Or.inr (Or.inl ⟨p, q, (within_iff _ _ _).mpr (fun r => q r.2)⟩)
theorem sim_step : Sim_step Rel := by
  intro k st mt a hk h
  unfold cPageBoard_step m_step o_m_step
  rcases wt a 5000 5000 rfl (by decide) with ⟨p, w⟩ | ⟨p, q, w⟩ | ⟨n, n1, n2, e, p, q, w⟩
  · rw [if_pos p, if_pos w]
    exact ⟨⟨fun _ => trivial, fun r => absurd w r⟩, Or.inl ⟨rfl, rfl, h.fail⟩⟩
  · rw [if_neg p, if_neg q, if_pos w]
    exact ⟨⟨fun _ => trivial, fun r => absurd w r⟩, Or.inl ⟨rfl, rfl, h.fail⟩⟩
  · rw [if_neg p, if_pos q, if_neg w]
    have hR : RR (k * 2000000 + 56 * 0) st (sI mt 0 0) := ⟨(RK.thrown h.1 0).mono (by omega), h.2⟩
    obtain ⟨S', M', x, a1, a2, a3, a4, a5⟩ := st_loop (mt := sI mt 0 0) n2 (by omega) n 0 (n + 1) st (sI mt 0 0) (by omega) n1 (by omega) hR rfl
    have b1 : cPageBoard_step_b24 (n + 1) st (nI n) 1 = some (S', x) := a1
    have b2 : m_step_b25 (n + 1) (sI mt 0 0) (nI n) 0 1 = some (M', x) := a2
    have eC : cPageBoard_step_b22 st a = (S', x) := by
      unfold cPageBoard_step_b22 cPageBoard_step_b24t
      rw [e, nI_clamp (by omega), b1]
      rfl
    have eM : m_step_b25t (sI mt 0 0) a 0 1 = (M', x) := by
      unfold m_step_b25t
      rw [e, nI_clamp (by omega), b2]
      rfl
    refine ⟨⟨fun r => absurd r w, fun _ => ?_⟩, Or.inr ⟨(S', x), by rw [eC], ?_, ?_, ?_⟩⟩
    · unfold o_m_step_b25t
      rw [e, nI_clamp (by omega)]
      exact ⟨a3, _, b2⟩
    · rw [eM]
      exact a5
    · rw [eM]
    · rw [eM]
      exact ⟨a4.1.mono (by omega), a4.2⟩
theorem sim_run : Sim_run Rel := by
  intro k st mt a hk h
  unfold cPageBoard_run m_run o_m_run
  rcases wt a 20000 20000 rfl (by decide) with ⟨p, w⟩ | ⟨p, q, w⟩ | ⟨n, n1, n2, e, p, q, w⟩
  · rw [if_pos p, if_pos w]
    exact ⟨⟨fun _ => trivial, fun r => absurd w r⟩, Or.inl ⟨rfl, rfl, h.fail⟩⟩
  · rw [if_neg p, if_neg q, if_pos w]
    exact ⟨⟨fun _ => trivial, fun r => absurd w r⟩, Or.inl ⟨rfl, rfl, h.fail⟩⟩
  · rw [if_neg p, if_pos q, if_neg w]
    have hR : RR (k * 2000000 + 56 * 0) st (sI mt 0 0) := ⟨(RK.thrown h.1 0).mono (by omega), h.2⟩
    obtain ⟨S', M', x, a1, a2, a3, a4, a5⟩ := rn_loop (mt := sI mt 0 0) n2 (by omega) n n 0 0 (n + 1) st (sI mt 0 0) (Nat.le_refl _) (by omega) n1 (by omega) (by omega) hR rfl
    have b1 : cPageBoard_run_b26 (n + 1) st (nI n) 0 0 = some (S', x) := a1
    have b2 : m_run_b28 (n + 1) (sI mt 0 0) (nI n) 0 0 1 = some (M', x) := a2
    have eC : cPageBoard_run_b22 st a = (S', x) := by
      unfold cPageBoard_run_b22 cPageBoard_run_b26t
      rw [e, nI_clamp (by omega), b1]
      rfl
    have eM : m_run_b28t (sI mt 0 0) a 0 0 1 = (M', x) := by
      unfold m_run_b28t
      rw [e, nI_clamp (by omega), b2]
      rfl
    refine ⟨⟨fun r => absurd r w, fun _ => ?_⟩, Or.inr ⟨(S', x), by rw [eC], ?_, ?_, ?_⟩⟩
    · unfold o_m_run_b28t
      rw [e, nI_clamp (by omega)]
      exact ⟨a3, _, b2⟩
    · rw [eM]
      exact a5
    · rw [eM]
    · rw [eM]
      exact ⟨a4.1.mono (by omega), a4.2⟩
