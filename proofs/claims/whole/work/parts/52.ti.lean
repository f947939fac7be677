/-! PURE 12: some ticks of the reference, in one form -/
def cdN : Nat → CS → CS
  | 0, s => s
  | k + 1, s => cController_timersCountDown (cdN k s)
theorem cdN_in (k : Nat) (s : CS) : cdN k (cController_timersCountDown s) = cdN (k + 1) s := by
  induction k with
  | zero => rfl
  | succ k ih => show cController_timersCountDown (cdN k (cController_timersCountDown s)) = _; rw [ih]; rfl
def pnt (S : CS) : CS := if gI S 29 = 0 then cArrays_fill17 S (gI S 24) else cScreen_makeFromMemory S
def TI (S1 mt : CS) (n x d s p f i : Nat) (M : CS) : Prop :=
  Fr [9, 15, 18, 23] [0, 2, 4, 6] [5, 6, 11, 12, 14] mt M ∧ gL M 0 = lN (n + i) ∧ gL M 2 = gL mt 2 + lN i ∧
  RVt (gI mt 9) (cdN ((n % 4 + i) / 4) S1) M ∧ gI M 15 = nI (x - i) ∧ gI M 18 = nI (d - i) ∧
  (¬ (1 ≤ d ∧ d ≤ i) → gA M 5 = gA mt 5 ∧ gA M 6 = gA mt 6 ∧ gI M 23 = gI mt 23 ∧ gL M 6 = gL mt 6) ∧
  ((1 ≤ d ∧ d ≤ i) → gA M 5 = cp5 mt s p ∧ gA M 6 = cp6 mt s p ∧ gI M 23 = 1 ∧ gL M 6 = gL mt 6 + 1024) ∧
  (i < f → gA M 11 = gA mt 11 ∧ gI M 9 = gI mt 9 ∧ gL M 4 = gL mt 4) ∧
  (f ≤ i → gI M 9 = 1 ∧ gL M 4 = gL mt 4 + 1 ∧ ∀ S : CS, (∀ j, j < 16384 → gA S 0 j = (if 1 ≤ d ∧ d ≤ f then cp5 mt s p else gA mt 5) j) → RScr S mt → ∃ f', pnt S = sA S 7 f' ∧ ∀ j, j < 2048 → f' j = gA M 11 j)
theorem RScr.to {S mt V : CS} (h : RScr S mt) (e5 : gI V 5 = gI mt 5) (e6 : gI V 6 = gI mt 6) (e7 : gI V 7 = gI mt 7) (a9 : gA V 9 = gA mt 9) (a10 : gA V 10 = gA mt 10) (a11 : gA V 11 = gA mt 11) : RScr S V := by
  unfold RScr at h ⊢
  rw [e5, e6, e7, a9, a10, a11]
  exact h
theorem TI_step {st S1 mt : CS} {n x d s p f i : Nat} {M : CS} (hT : TI S1 mt n x d s p f i M) (hn : n + i + 1 < 2 ^ 31) (hx : x < 2 ^ 31) (hd : d < 2 ^ 31) (hs : s < 16) (hp : p < 16) (e20 : gI mt 20 = nI s) (e21 : gI mt 21 = nI p) (hf : f = 20000 - n % 20000) (hi : i < 20000) (hS : RScr st mt) : TI S1 mt n x d s p f (i + 1) (m_tick M) ∧ o_m_tick M := by
  obtain ⟨F, L0, L2, RV, I15, I18, D0, D1, P0, P1⟩ := hT
  obtain ⟨t1, t2⟩ := tick_is M (n := n + i) hn L0
  -- the timers
  have hTm : ∃ T, m_tick M = m_tick_b117 T ∧ (o_m_tick_b117 T → o_m_tick M) ∧ Fr [] [0, 2] [12, 14] M T ∧ gL T 0 = lN (n + (i + 1)) ∧ gL T 2 = gL M 2 + 1 ∧ RVt (gI mt 9) (cdN ((n % 4 + (i + 1)) / 4) S1) T := by
    have R0 : RVt (gI mt 9) (cdN ((n % 4 + i) / 4) S1) (sL (sL M 2 (gL M 2 + 1)) 0 (lN (n + i + 1))) := RV
    have F0 : Fr [] [0, 2] [12, 14] M (sL (sL M 2 (gL M 2 + 1)) 0 (lN (n + i + 1))) := (Fr.sL _ _ _ _ _ _ (by decide)).tr (Fr.sL _ _ _ _ _ _ (by decide))
    by_cases c : (n + i + 1) % 4 = 0
    · rw [if_pos c] at t1 t2
      have FT := (Fr_tmr (sL (sL M 2 (gL M 2 + 1)) 0 (lN (n + i + 1))) 0).tr (Fr_tmr _ 1)
      refine ⟨_, t1, t2, F0.tr (FT.mono (fun j h => absurd h List.not_mem_nil) (fun j h => absurd h List.not_mem_nil) (fun j h => h)), ?_, ?_, ?_⟩
      · exact FT.2.1 0 (by decide)
      · exact FT.2.1 2 (by decide)
      · have e : (n % 4 + (i + 1)) / 4 = (n % 4 + i) / 4 + 1 := by omega
        rw [e]
        exact (tcd R0).1
    · rw [if_neg c] at t1 t2
      have e : (n % 4 + (i + 1)) / 4 = (n % 4 + i) / 4 := by omega
      rw [e]
      exact ⟨_, t1, t2, F0, rfl, rfl, R0⟩
  obtain ⟨T, q1, q2, FT, TL0, TL2, TRV⟩ := hTm
  obtain ⟨U, u1, u2, FU, U15⟩ := st1 T (x := x - i) (by omega) (by rw [FT.1 15 (by decide)]; exact I15)
  have U20 : gI U 20 = nI s := by rw [FU.1 20 (by decide), FT.1 20 (by decide), F.1 20 (by decide)]; exact e20
  have U21 : gI U 21 = nI p := by rw [FU.1 21 (by decide), FT.1 21 (by decide), F.1 21 (by decide)]; exact e21
  have U18 : gI U 18 = nI (d - i) := by rw [FU.1 18 (by decide), FT.1 18 (by decide)]; exact I18
  obtain ⟨V, v1, v2, FV, V18, Vn, Vy⟩ := st2 U (d := d - i) (by omega) U18 hs hp U20 U21
  have VL0 : gL V 0 = lN (n + (i + 1)) := by rw [FV.2.1 0 (by decide), FU.2.1 0 (by decide)]; exact TL0
  have VL2 : gL V 2 = gL mt 2 + lN (i + 1) := by rw [FV.2.1 2 (by decide), FU.2.1 2 (by decide), TL2, L2, Int64.add_assoc, lN_1]
  have FVm : Fr [9, 15, 18, 23] [0, 2, 4, 6] [5, 6, 11, 12, 14] mt V := ((F.tr (FT.mono (by decide) (by decide) (by decide))).tr (FU.mono (by decide) (by decide) (by decide))).tr (FV.mono (by decide) (by decide) (by decide))
  have VRV : RVt (gI mt 9) (cdN ((n % 4 + (i + 1)) / 4) S1) V := TRV.to (by rw [FV.2.2.1 12 (by decide), FU.2.2.1 12 (by decide)]) (by rw [FV.2.2.1 13 (by decide), FU.2.2.1 13 (by decide)]) (by rw [FV.2.2.1 14 (by decide), FU.2.2.1 14 (by decide)]) (by rw [FV.2.2.1 15 (by decide), FU.2.2.1 15 (by decide)])
  have V15 : gI V 15 = nI (x - (i + 1)) := by rw [FV.1 15 (by decide), U15]; rfl
  have V18' : gI V 18 = nI (d - (i + 1)) := V18
  have UA5 : gA U 5 = gA M 5 := by rw [FU.2.2.1 5 (by decide), FT.2.2.1 5 (by decide)]
  have UA6 : gA U 6 = gA M 6 := by rw [FU.2.2.1 6 (by decide), FT.2.2.1 6 (by decide)]
  have UI23 : gI U 23 = gI M 23 := by rw [FU.1 23 (by decide), FT.1 23 (by decide)]
  have UL6 : gL U 6 = gL M 6 := by rw [FU.2.1 6 (by decide), FT.2.1 6 (by decide)]
  have UI19 : gI U 19 = gI mt 19 := by rw [FU.1 19 (by decide), FT.1 19 (by decide), F.1 19 (by decide)]
  have VD0 : ¬ (1 ≤ d ∧ d ≤ i + 1) → gA V 5 = gA mt 5 ∧ gA V 6 = gA mt 6 ∧ gI V 23 = gI mt 23 ∧ gL V 6 = gL mt 6 := by
    intro c
    obtain ⟨a1, a2, a3, a4⟩ := Vn (by omega)
    obtain ⟨b1, b2, b3, b4⟩ := D0 (by omega)
    exact ⟨by rw [a1, UA5, b1], by rw [a2, UA6, b2], by rw [a3, UI23, b3], by rw [a4, UL6, b4]⟩
  have VD1 : (1 ≤ d ∧ d ≤ i + 1) → gA V 5 = cp5 mt s p ∧ gA V 6 = cp6 mt s p ∧ gI V 23 = 1 ∧ gL V 6 = gL mt 6 + 1024 := by
    intro c
    by_cases c2 : d = i + 1
    · obtain ⟨a1, a2, a3, a4⟩ := Vy (by omega)
      obtain ⟨b1, b2, b3, b4⟩ := D0 (by omega)
      refine ⟨?_, ?_, a3, by rw [a4, UL6, b4]⟩
      · rw [a1]; unfold cp5; rw [UI19, UA5, UA6, b1, b2]
      · rw [a2]; unfold cp6; rw [UI19, UA5, UA6, b1, b2]
    · obtain ⟨a1, a2, a3, a4⟩ := Vn (by omega)
      obtain ⟨b1, b2, b3, b4⟩ := D1 (by omega)
      exact ⟨by rw [a1, UA5, b1], by rw [a2, UA6, b2], by rw [a3, UI23, b3], by rw [a4, UL6, b4]⟩
  have VA11 : gA V 11 = gA M 11 := by rw [FV.2.2.1 11 (by decide), FU.2.2.1 11 (by decide), FT.2.2.1 11 (by decide)]
  have VI9 : gI V 9 = gI M 9 := by rw [FV.1 9 (by decide), FU.1 9 (by decide), FT.1 9 (by decide)]
  have VL4 : gL V 4 = gL M 4 := by rw [FV.2.1 4 (by decide), FU.2.1 4 (by decide), FT.2.1 4 (by decide)]
  obtain ⟨w0, w1⟩ := st3 V (m := n + (i + 1)) (by omega) VL0
  by_cases c : (n + (i + 1)) % 20000 = 0
  · have hfi : i + 1 = f := by omega
    obtain ⟨p1, p2, p3⟩ := P0 (by omega)
    obtain ⟨w2, w3⟩ := w1 c
    have hSV : ∀ S : CS, RScr S mt → RScr S V := fun S h => h.to (FVm.1 5 (by decide)) (FVm.1 6 (by decide)) (FVm.1 7 (by decide)) (FVm.2.2.1 9 (by decide)) (FVm.2.2.1 10 (by decide)) (by rw [VA11, p1])
    have hmem : gA V 5 = (if 1 ≤ d ∧ d ≤ f then cp5 mt s p else gA mt 5) := by
      by_cases z : 1 ≤ d ∧ d ≤ f
      · rw [if_pos z]; exact (VD1 (by omega)).1
      · rw [if_neg z]; exact (VD0 (by omega)).1
    have hS0 : RScr (sA st 0 (gA V 5)) mt := hS
    obtain ⟨o0, f0, g0, r0, r1, r2⟩ := paint_eq (st := sA st 0 (gA V 5)) (mt := V) (fun j _ => rfl) (hSV _ hS0)
    have eW : m_tick M = sL (sI (sA V 11 g0) 9 1) 4 (gL V 4 + 1) := by rw [q1, u1, v1, w2, r1]
    refine ⟨?_, q2 (u2 (v2 (w3 o0)))⟩
    rw [eW]
    refine ⟨FVm.tr ((((Fr.sA _ _ _ _ _ _ (by decide)).tr (Fr.sI _ _ _ _ _ _ (by decide))).tr (Fr.sL _ _ _ _ _ _ (by decide)))), VL0, VL2, VRV, V15, V18', VD0, VD1, fun z => by omega, fun _ => ⟨rfl, ?_, ?_⟩⟩
    · show gL V 4 + 1 = gL mt 4 + 1
      rw [VL4, p3]
    · intro S hm hSm
      obtain ⟨-, f1, g1, s0, s1, s2⟩ := paint_eq (st := S) (mt := V) (fun j hj => by rw [hm j hj, hmem]) (hSV S hSm)
      refine ⟨f1, s0, fun j hj => ?_⟩
      have e : g1 = g0 := by
        have := congrArg (fun z => gA z 11) (s1.symm.trans r1)
        exact this
      show f1 j = g0 j
      rw [s2 j hj, e]
  · obtain ⟨w2, w3⟩ := w0 c
    have eW : m_tick M = V := by rw [q1, u1, v1, w2]
    refine ⟨?_, q2 (u2 (v2 w3))⟩
    rw [eW]
    refine ⟨FVm, VL0, VL2, VRV, V15, V18', VD0, VD1, fun z => ?_, fun z => ?_⟩
    · obtain ⟨p1, p2, p3⟩ := P0 (by omega)
      exact ⟨by rw [VA11, p1], by rw [VI9, p2], by rw [VL4, p3]⟩
    · obtain ⟨p1, p2, p3⟩ := P1 (by omega)
      refine ⟨by rw [VI9, p1], by rw [VL4, p2], ?_⟩
      rw [VA11]
      exact p3
theorem TI_all {st S1 mt : CS} {n x d s p f t : Nat} (h0 : TI S1 mt n x d s p f 0 mt) (hn : n + t < 2 ^ 31) (ht : t < 20000) (hx : x < 2 ^ 31) (hd : d < 2 ^ 31) (hs : s < 16) (hp : p < 16) (e20 : gI mt 20 = nI s) (e21 : gI mt 21 = nI p) (hf : f = 20000 - n % 20000) (hS : RScr st mt) : ∀ i, i ≤ t → TI S1 mt n x d s p f i (tk i mt) ∧ ∀ j, j < i → o_m_tick (tk j mt) := by
  intro i
  induction i with
  | zero => intro _; exact ⟨h0, fun j hj => by omega⟩
  | succ i ih =>
    intro hi
    obtain ⟨a, b⟩ := ih (by omega)
    obtain ⟨c, e⟩ := TI_step a (by omega) hx hd hs hp e20 e21 hf (by omega) hS
    refine ⟨c, fun j hj => ?_⟩
    by_cases z : j = i
    · rw [z]; exact e
    · exact b j (by omega)
