/-! PURE 14: ticks of the reference against the class's devices -/
theorem goOn_eq {N t : Nat} {st mt : CS} (h : RK N st mt) (hN : N + t < 2 ^ 30) (ht : t ≤ 40) :
    RK (N + t) (cPageBoard_devicesGoOn (sL st 0 (gL st 0 + lN t)) (nI t)) (tk t mt) ∧ gA (cPageBoard_devicesGoOn (sL st 0 (gL st 0 + lN t)) (nI t)) 1 = gA st 1 ∧ gI (tk t mt) 1 = gI mt 1 ∧ gI (tk t mt) 24 = gI mt 24 ∧ gI (tk t mt) 0 = gI mt 0 ∧ ∀ j, j < t → o_m_tick (tk j mt) := by
  obtain ⟨⟨r1, r2, r3, r4⟩, ⟨m1, m2⟩, ⟨n1, n2, n3⟩, ⟨i1, i2, i3, i4, i5, i6⟩, ⟨o1, o2, o3, o4, o5, o6⟩, ⟨s1, s2, x, hx, s3⟩, ⟨d1, d2, d3, d4, d5, d6, ⟨d, hd, d7⟩, ⟨s, hs, d8⟩, ⟨p, hp, d9⟩, d10⟩, hT, hS, ⟨n, c1, c2, c3, c4⟩, ⟨w, w1, w2, w3, w4⟩, ⟨q1, q2, q3, q4, q5, q6, q7⟩⟩ := h
  have h16 : gI st 16 = nI d := d4.trans d7
  have hd0 : d ≠ 0 → ¬ gI mt 18 = 0 := fun z => by rw [d7]; exact nI_ne0 (by omega) (by omega)
  -- the reference
  have hV : RVt (gI mt 9) (cdN ((n % 4 + 0) / 4) (sI (sL st 0 (gL st 0 + lN t)) 17 (nI (n % 4 + t)))) mt := by
    rw [show (n % 4 + 0) / 4 = 0 by omega]
    exact ⟨hT, i1, o2, o3, o1⟩
  have h0 : TI (sI (sL st 0 (gL st 0 + lN t)) 17 (nI (n % 4 + t))) mt n x d s p (20000 - n % 20000) 0 mt :=
    ⟨Fr.rf _ _ _ _, c2, (Int64.add_zero _).symm, hV, s3, d7, fun _ => ⟨rfl, rfl, rfl, rfl⟩, fun z => by omega, fun _ => ⟨rfl, rfl, rfl⟩, fun z => by omega⟩
  obtain ⟨⟨F, L0, L2, RV, I15, I18, D0, D1, P0, P1⟩, hO⟩ := TI_all (t := t) h0 (by omega) (by omega) (by omega) (by omega) hs hp d8 d9 rfl hS t (Nat.le_refl t)
  -- the class
  have k17 : gI (sL st 0 (gL st 0 + lN t)) 17 = nI (n % 4) := c3
  have e1 := ctl_go (sL st 0 (gL st 0 + lN t)) (a := n % 4) (t := t) (by omega) ht k17
  have FA : Fr [2, 17, 19, 22] [] [] (sL st 0 (gL st 0 + lN t)) (cController_goOn (sL st 0 (gL st 0 + lN t)) (nI t)) := by
    rw [e1]
    exact ((Fr.sI _ _ _ _ _ _ (by decide)).tr ((Fr_cdN _ _).mono (by decide) (by decide) (by decide))).tr (Fr.sI _ _ _ _ _ _ (by decide))
  have RVA : RVt (gI mt 9) (cController_goOn (sL st 0 (gL st 0 + lN t)) (nI t)) (tk t mt) := by
    rw [e1]; exact RV
  have A17 : gI (cController_goOn (sL st 0 (gL st 0 + lN t)) (nI t)) 17 = nI ((n % 4 + t) % 4) := by rw [e1]; rfl
  have hdev : cPageBoard_devicesGoOn (sL st 0 (gL st 0 + lN t)) (nI t) = cPageBoard_devicesGoOn_b16 (cSerial_goOn (cController_goOn (sL st 0 (gL st 0 + lN t)) (nI t)) (nI t)) (nI t) := rfl
  rw [hdev]
  generalize cController_goOn (sL st 0 (gL st 0 + lN t)) (nI t) = A at FA RVA A17
  obtain ⟨g1, g2, g3, g4⟩ := ser_go A (x := x) (t := t) hx (by omega) (by rw [FA.1 9 (by decide)]; exact s2.trans s3)
  generalize cSerial_goOn A (nI t) = B at g1 g2 g3 g4
  have FB : Fr [2, 3, 9, 17, 19, 22] [] [] (sL st 0 (gL st 0 + lN t)) B := (FA.mono (by decide) (by decide) (by decide)).tr (g1.mono (by decide) (by decide) (by decide))
  have hSB : RScr B mt := RScr.st (S := sL st 0 (gL st 0 + lN t)) hS (FB.mono (by decide) (by decide) (by decide))
  have B0 : gA B 0 = gA st 0 := FB.2.2.1 0 (by decide)
  have B5 : gA B 5 = gA st 5 := FB.2.2.1 5 (by decide)
  have B15 : gI B 15 = gI st 15 := FB.1 15 (by decide)
  have hcp5 : 1 ≤ d → ∀ j, j < 16384 → (if gI B 15 = 0 then gA B 0 else va_cpy (gA B 5) (gA B 0) (1024 * s) (1024 * p) 1024) j = cp5 mt s p j := by
    intro z j hj
    obtain ⟨-, -, y⟩ := d10 (hd0 (by omega))
    rw [B0, B5, B15]
    unfold cp5
    by_cases y0 : gI st 15 = 0
    · rw [if_pos y0, if_neg (y.mp y0)]
      exact m1 j hj
    · rw [if_neg y0, if_pos (Classical.byContradiction fun q => y0 (y.mpr q))]
      exact cpy_eq m2 m1 (by omega) j hj
  have hcp6 : 1 ≤ d → ∀ j, j < 16384 → (if gI B 15 = 0 then va_cpy (gA B 0) (gA B 5) (1024 * p) (1024 * s) 1024 else gA B 5) j = cp6 mt s p j := by
    intro z j hj
    obtain ⟨-, -, y⟩ := d10 (hd0 (by omega))
    rw [B0, B5, B15]
    unfold cp6
    by_cases y0 : gI st 15 = 0
    · rw [if_pos y0, if_neg (y.mp y0)]
      exact cpy_eq m1 m2 (by omega) j hj
    · rw [if_neg y0, if_pos (Classical.byContradiction fun q => y0 (y.mpr q))]
      exact m2 j hj
  obtain ⟨G1, G2, G3, G4, G5, G6, G7⟩ := two_go (S := B) (mt := mt) (f := 20000 - n % 20000) (d := d) (t := t) (s := s) (p := p) (g := gA (tk t mt) 11) (m5 := cp5 mt s p) (by rw [FB.1 30 (by decide)]; exact c4) (by omega) (by omega) hd (by rw [FB.1 16 (by decide)]; exact h16) hs hp
    (fun z => by rw [FB.1 13 (by decide)]; exact (d10 (hd0 z)).1.trans d8) (fun z => by rw [FB.1 14 (by decide)]; exact (d10 (hd0 z)).2.1.trans d9) hSB
    (fun j hj => by
      by_cases z : 1 ≤ d
      · exact Or.inl (hcp5 z j hj)
      · exact Or.inr (fun q => z q.1))
    (fun j hj => by rw [B0]; exact m1 j hj) (fun z => (P1 z).2.2)
  generalize cPageBoard_devicesGoOn_b16 B (nI t) = D at G1 G2 G3 G4 G5 G6 G7
  generalize tk t mt = M at F L0 L2 RV I15 I18 D0 D1 P0 P1 RVA G5
  have FD : Fr [2, 3, 4, 9, 16, 17, 19, 22, 30] [3, 4] [0, 5, 7] (sL st 0 (gL st 0 + lN t)) D := (FB.mono (by decide) (by decide) (by decide)).tr (G1.mono (by decide) (by decide) (by decide))
  have M23 : gI D 3 = vB (decide (gI M 23 = 0)) (decide (gI M 15 = 0)) (decide (gI M 14 = 0)) ∧ gI D 4 = vF (decide (gI M 23 = 0)) := by
    have b3 : gI B 3 = vB (decide (gI mt 23 = 0)) (decide (gI M 15 = 0)) (decide (gI M 14 = 0)) := by
      have e14 : gI M 14 = gI mt 14 := F.1 14 (by decide)
      have a3 : gI A 3 = vB (decide (gI mt 23 = 0)) (decide (gI mt 15 = 0)) (decide (gI mt 14 = 0)) := by
        rw [FA.1 3 (by decide), ← m_statusB_eq]; exact i2
      rw [I15, e14]
      by_cases z : x ≤ t
      · rw [g3 z, a3, vB7, show x - t = 0 by omega]
        rfl
      · rw [g4 z, a3, s3]
        have y1 : ¬ nI x = 0 := nI_ne0 (by omega) (by omega)
        have y2 : ¬ nI (x - t) = 0 := nI_ne0 (by omega) (by omega)
        rw [decide_eq_false y1, decide_eq_false y2]
    have b4 : gI B 4 = vF (decide (gI mt 23 = 0)) := by
      rw [FB.1 4 (by decide), ← m_statusF_eq]; exact i3
    by_cases z : 1 ≤ d ∧ d ≤ t
    · obtain ⟨y1, y2, -⟩ := G7 z
      have y3 := (D1 z).2.2.1
      rw [y1, y2, b3, b4, vB6, vF6, y3]
      exact ⟨rfl, rfl⟩
    · obtain ⟨y1, y2, -⟩ := G6 z
      have y3 := (D0 z).2.2.1
      rw [y1, y2, b3, b4, y3]
      exact ⟨rfl, rfl⟩
  have hA2 : gI D 2 = sAf (gA M 12 1) (gA M 12 0) (gI M 9) ∧ b01 (gI M 9) := by
    have b2 : gI B 2 = sAf (gA M 12 1) (gA M 12 0) (gI mt 9) := by rw [g1.1 2 (by decide)]; exact RVA.2.1
    by_cases z : 20000 - n % 20000 ≤ t
    · rw [(G5 z).1, b2, sA_o3 _ _ _ RVA.2.2.2.1 RVA.2.2.1 o1, (P1 z).1]
      exact ⟨rfl, Or.inr rfl⟩
    · rw [(G4 z).1, b2, (P0 (by omega)).2.1]
      exact ⟨rfl, o1⟩
  have hTD : RTim D M := by
    obtain ⟨t1, t2, t3, t4, t5, t6, t7⟩ := RVA.1
    have FAD : Fr [2, 3, 4, 9, 16, 30] [3, 4] [0, 5, 7] A D := (g1.mono (by decide) (by decide) (by decide)).tr (G1.mono (by decide) (by decide) (by decide))
    exact ⟨by rw [FAD.1 18 (by decide)]; exact t1, by rw [FAD.1 19 (by decide)]; exact t2, by rw [FAD.1 20 (by decide)]; exact t3, by rw [FAD.1 21 (by decide)]; exact t4, by rw [FAD.1 22 (by decide)]; exact t5, by rw [FAD.1 23 (by decide)]; exact t6, t7⟩
  have mI : ∀ j, j ∉ [9, 15, 18, 23] → gI M j = gI mt j := F.1
  refine ⟨⟨⟨?_, ?_, ?_, ?_⟩, ⟨?_, ?_⟩, ⟨?_, ?_, ?_⟩, ⟨?_, ?_, ?_, ?_, ?_, ?_⟩, ⟨hA2.2, RVA.2.2.1, RVA.2.2.2.1, ?_, ?_, ?_⟩, ⟨?_, ?_, ?_⟩, ⟨?_, ?_, ?_, ?_, ?_, ?_, ?_, ?_, ?_, ?_⟩, hTD, ⟨?_, ?_, ?_, ?_, ?_, ?_, ?_, ?_, ?_⟩, ⟨n + t, by omega, L0, ?_, ?_⟩, ⟨w, by omega, ?_, ?_, ?_⟩, ⟨?_, ?_, ?_, ?_, ?_, ?_, ?_⟩⟩, ?_, ?_, ?_, ?_, hO⟩
  · intro j hj; rw [FD.2.2.1 1 (by decide), F.2.2.1 0 (by decide)]; exact r1 j hj
  · intro j hj; rw [FD.2.2.1 1 (by decide), F.2.2.1 1 (by decide)]; exact r2 j hj
  · intro j hj; rw [FD.2.2.1 1 (by decide), F.2.2.1 2 (by decide)]; exact r3 j hj
  · intro j hj; rw [FD.2.2.1 1 (by decide), F.2.2.1 3 (by decide)]; exact r4 j hj
  · intro j hj
    by_cases z : 1 ≤ d ∧ d ≤ t
    · rw [(G7 z).2.2.2.1, (D1 z).1]; exact hcp5 z.1 j hj
    · rw [(G6 z).2.2.2.1, (D0 z).1, B0]; exact m1 j hj
  · intro j hj
    by_cases z : 1 ≤ d ∧ d ≤ t
    · rw [(G7 z).2.2.2.2, (D1 z).2.1]; exact hcp6 z.1 j hj
    · rw [(G6 z).2.2.2.2, (D0 z).2.1, B5]; exact m2 j hj
  · intro j hj; rw [FD.2.2.1 2 (by decide), F.2.2.1 7 (by decide)]; exact n1 j hj
  · intro j hj; rw [FD.2.2.1 3 (by decide), F.2.2.1 8 (by decide)]; exact n2 j hj
  · rw [FD.1 1 (by decide), mI 8 (by decide)]; exact n3
  · exact hA2.1
  · rw [m_statusB_eq]; exact M23.1
  · rw [m_statusF_eq]; exact M23.2
  · rw [FD.1 5 (by decide), mI 10 (by decide)]; exact i4
  · rw [FD.1 6 (by decide), mI 11 (by decide)]; exact i5
  · rw [FD.1 7 (by decide), mI 12 (by decide)]; exact i6
  · rw [mI 14 (by decide)]; exact o4
  · rw [mI 22 (by decide)]; exact o5
  · by_cases z : 1 ≤ d ∧ d ≤ t
    · rw [(D1 z).2.2.1]; exact Or.inr rfl
    · rw [(D0 z).2.2.1]; exact o6
  · rw [FD.1 8 (by decide), mI 13 (by decide)]; exact s1
  · rw [G1.1 9 (by decide), g2, I15]
  · rw [I15]; exact ⟨x - t, by omega, rfl⟩
  · rw [FD.1 10 (by decide), mI 16 (by decide)]; exact d1
  · rw [FD.1 11 (by decide), mI 17 (by decide)]; exact d2
  · rw [FD.1 12 (by decide), mI 22 (by decide)]; exact d3
  · rw [G3, I18]
  · rw [mI 16 (by decide)]; exact d5
  · rw [mI 17 (by decide)]; exact d6
  · rw [I18]; exact ⟨d - t, by omega, rfl⟩
  · rw [mI 20 (by decide)]; exact ⟨s, hs, d8⟩
  · rw [mI 21 (by decide)]; exact ⟨p, hp, d9⟩
  · intro z
    have z0 : d ≠ 0 := by
      intro y
      apply z
      rw [I18, y, Nat.zero_sub]
      rfl
    rw [FD.1 13 (by decide), FD.1 14 (by decide), FD.1 15 (by decide), mI 20 (by decide), mI 21 (by decide), mI 19 (by decide)]
    exact d10 (hd0 z0)
  · rw [FD.1 24 (by decide), mI 5 (by decide)]; exact hS.1
  · rw [FD.1 25 (by decide), mI 6 (by decide)]; exact hS.2.1
  · rw [FD.1 26 (by decide), F.2.2.1 10 (by decide)]; exact hS.2.2.1
  · rw [FD.1 27 (by decide), F.2.2.1 10 (by decide)]; exact hS.2.2.2.1
  · rw [FD.1 28 (by decide), F.2.2.1 10 (by decide)]; exact hS.2.2.2.2.1
  · rw [FD.1 29 (by decide), mI 7 (by decide)]; exact hS.2.2.2.2.2.1
  · rw [mI 6 (by decide)]; exact hS.2.2.2.2.2.2.1
  · intro j hj; rw [FD.2.2.1 6 (by decide), F.2.2.1 9 (by decide)]; exact hS.2.2.2.2.2.2.2.1 j hj
  · intro j hj
    by_cases z : 20000 - n % 20000 ≤ t
    · exact (G5 z).2.2 j hj
    · rw [(G4 z).2.2, (P0 (by omega)).1, FB.2.2.1 7 (by decide)]; exact hS.2.2.2.2.2.2.2.2 j hj
  · rw [G1.1 17 (by decide), g1.1 17 (by decide), A17, show (n % 4 + t) % 4 = (n + t) % 4 by omega]
  · rw [G2]
    by_cases z : 20000 - n % 20000 ≤ t
    · rw [if_pos z, show 20000 - n % 20000 + 20000 - t = 20000 - (n + t) % 20000 by omega]
    · rw [if_neg z, show 20000 - n % 20000 - t = 20000 - (n + t) % 20000 by omega]
  · rw [F.2.1 1 (by decide)]; exact w2
  · rw [FD.2.1 2 (by decide)]; exact w3
  · intro i z1 z2; rw [FD.2.2.1 4 (by decide), F.2.2.1 16 (by decide)]; exact w4 i z1 z2
  · rw [FD.2.1 0 (by decide), L2]
    show gL st 0 + lN t = gL mt 2 + lN t
    rw [q1]
  · rw [FD.2.1 1 (by decide), F.2.1 3 (by decide)]; exact q2
  · by_cases z : 1 ≤ d ∧ d ≤ t
    · rw [(G7 z).2.2.1, (D1 z).2.2.2, FB.2.1 3 (by decide)]
      show gL st 3 + 1024 = _
      rw [q3]
    · rw [(G6 z).2.2.1, (D0 z).2.2.2, FB.2.1 3 (by decide)]; exact q3
  · by_cases z : 20000 - n % 20000 ≤ t
    · rw [(G5 z).2.1, (P1 z).2.1, FB.2.1 4 (by decide)]
      show gL st 4 + 1 = _
      rw [q4]
    · rw [(G4 z).2.1, (P0 (by omega)).2.2, FB.2.1 4 (by decide)]; exact q4
  · rw [FD.2.1 5 (by decide), F.2.1 5 (by decide)]; exact q5
  · intro j hj; rw [FD.2.2.2 0, F.2.2.2 0]; exact q6 j hj
  · rw [FD.1 0 (by decide), mI 24 (by decide)]; exact q7
  · exact FD.2.2.1 1 (by decide)
  · exact mI 1 (by decide)
  · exact mI 24 (by decide)
  · exact mI 0 (by decide)
