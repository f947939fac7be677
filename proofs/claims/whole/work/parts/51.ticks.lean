/-! PURE 11: ticks -/
def tk : Nat → CS → CS
  | 0, m => m
  | i + 1, m => m_tick (tk i m)
def RVt (f0 : Int32) (st M : CS) : Prop := RTim st M ∧ gI st 2 = sAf (gA M 12 1) (gA M 12 0) f0 ∧ b01 (gA M 12 0) ∧ b01 (gA M 12 1) ∧ b01 f0
theorem RVt.to {f0 : Int32} {st M M' : CS} (h : RVt f0 st M) (e12 : gA M' 12 = gA M 12) (e13 : gA M' 13 = gA M 13) (e14 : gA M' 14 = gA M 14) (e15 : gA M' 15 = gA M 15) : RVt f0 st M' := by
  unfold RVt RTim at h ⊢
  rw [e12, e13, e14, e15]
  exact h
theorem sA_o5 : ∀ (t1 t0 f : Int32), b01 t1 → b01 t0 → b01 f → sAf t1 t0 f ||| 32 = sAf t1 1 f := by
  intro t1 t0 f h1 h0 hf
  rcases h1 with rfl | rfl <;> rcases h0 with rfl | rfl <;> rcases hf with rfl | rfl <;> decide
theorem sA_o6 : ∀ (t1 t0 f : Int32), b01 t1 → b01 t0 → b01 f → sAf t1 t0 f ||| 64 = sAf 1 t0 f := by
  intro t1 t0 f h1 h0 hf
  rcases h1 with rfl | rfl <;> rcases h0 with rfl | rfl <;> rcases hf with rfl | rfl <;> decide
theorem sA_o3 : ∀ (t1 t0 f : Int32), b01 t1 → b01 t0 → b01 f → sAf t1 t0 f ||| 8 = sAf t1 t0 1 := by
  intro t1 t0 f h1 h0 hf
  rcases h1 with rfl | rfl <;> rcases h0 with rfl | rfl <;> rcases hf with rfl | rfl <;> decide
def cst0 (st : CS) : CS := if (cTimer_countsDown0 st).2 = 0 then (cTimer_countsDown0 st).1 else sI (cTimer_countsDown0 st).1 2 (gI (cTimer_countsDown0 st).1 2 ||| 32)
theorem cst0_eq {f0 : Int32} {st M : CS} (h : RVt f0 st M) : RVt f0 (cst0 st) (tmr M 0) ∧ Fr [2, 19, 22] [] [] st (cst0 st) := by
  obtain ⟨⟨t1, t2, t3, t4, t5, t6, t7⟩, s2, b0, b1, bf⟩ := id h
  obtain ⟨l, hl, el⟩ := (t7 0 (by omega)).1
  obtain ⟨c, hc, ec⟩ := (t7 0 (by omega)).2.1
  unfold cst0 cTimer_countsDown0 cTimer_countsDown0_b26 tmr tmr2
  have x1 : (0 : Int32).toNatClampNeg = 0 := rfl
  rw [x1, t1, t2, el, ec]
  by_cases l0 : l = 0
  · subst l0
    exact ⟨h, Fr.rf _ _ _ _⟩
  · have l1 : ¬ nI l = 0 := nI_ne0 (by omega) (by omega)
    rw [if_neg l1, if_neg l1]
    by_cases c0 : c = 0
    · subst c0
      refine ⟨⟨⟨t1, rfl, t3, t4, t5, t6, fun x hx => ⟨(t7 x hx).1, ?_, (t7 x hx).2.2⟩⟩, s2, b0, b1, bf⟩, Fr.sI _ _ _ _ _ _ (by decide)⟩
      rcases (by omega : x = 0 ∨ x = 1) with rfl | rfl; exact ⟨65535, by omega, rfl⟩; exact (t7 1 (by omega)).2.1
    · have c1 : ¬ nI c = 0 := nI_ne0 (by omega) (by omega)
      have c2 : nI c - 1 = nI (c - 1) := pk_sub (b := 1) (by omega)
      rw [if_neg c1, if_neg c1, c2]
      by_cases d0 : c = 1
      · subst d0
        refine ⟨⟨⟨t1, ?_, t3, t4, t5, t6, fun x hx => ⟨(t7 x hx).1, ?_, (t7 x hx).2.2⟩⟩, ?_, ?_, ?_, bf⟩, (Fr.sI _ _ _ _ _ _ (by decide)).tr (Fr.sI _ _ _ _ _ _ (by decide))⟩
        · show nI l = gA M 13 0
          exact el.symm
        · rcases (by omega : x = 0 ∨ x = 1) with rfl | rfl; exact (t7 0 (by omega)).1; exact (t7 1 (by omega)).2.1
        · show gI st 2 ||| 32 = sAf (gA M 12 1) 1 f0
          rw [s2]
          exact sA_o5 _ _ _ b1 b0 bf
        · exact Or.inr rfl
        · exact b1
      · have d1 : ¬ nI (c - 1) = 0 := nI_ne0 (by omega) (by omega)
        have d2 : ¬ gA (sA M 14 (upd (gA M 14) 0 (nI (c - 1)))) 14 0 ≤ 0 := by
          show ¬ nI (c - 1) ≤ 0
          exact nI_nle (by omega) (by omega)
        rw [if_neg d1, if_neg d2]
        refine ⟨⟨⟨t1, rfl, t3, t4, t5, t6, fun x hx => ⟨(t7 x hx).1, ?_, (t7 x hx).2.2⟩⟩, s2, b0, b1, bf⟩, Fr.sI _ _ _ _ _ _ (by decide)⟩
        rcases (by omega : x = 0 ∨ x = 1) with rfl | rfl; exact ⟨c - 1, by omega, rfl⟩; exact (t7 1 (by omega)).2.1
def cst1 (st : CS) : CS := if (cTimer_countsDown1 st).2 = 0 then (cTimer_countsDown1 st).1 else sI (cTimer_countsDown1 st).1 2 (gI (cTimer_countsDown1 st).1 2 ||| 64)
theorem cst1_eq {f0 : Int32} {st M : CS} (h : RVt f0 st M) : RVt f0 (cst1 st) (tmr M 1) ∧ Fr [2, 19, 22] [] [] st (cst1 st) := by
  obtain ⟨⟨t1, t2, t3, t4, t5, t6, t7⟩, s2, b0, b1, bf⟩ := id h
  obtain ⟨l, hl, el⟩ := (t7 1 (by omega)).1
  obtain ⟨c, hc, ec⟩ := (t7 1 (by omega)).2.1
  unfold cst1 cTimer_countsDown1 cTimer_countsDown1_b26 tmr tmr2
  have x1 : (1 : Int32).toNatClampNeg = 1 := rfl
  rw [x1, t4, t5, el, ec]
  by_cases l0 : l = 0
  · subst l0
    exact ⟨h, Fr.rf _ _ _ _⟩
  · have l1 : ¬ nI l = 0 := nI_ne0 (by omega) (by omega)
    rw [if_neg l1, if_neg l1]
    by_cases c0 : c = 0
    · subst c0
      refine ⟨⟨⟨t1, t2, t3, t4, rfl, t6, fun x hx => ⟨(t7 x hx).1, ?_, (t7 x hx).2.2⟩⟩, s2, b0, b1, bf⟩, Fr.sI _ _ _ _ _ _ (by decide)⟩
      rcases (by omega : x = 0 ∨ x = 1) with rfl | rfl; exact (t7 0 (by omega)).2.1; exact ⟨65535, by omega, rfl⟩
    · have c1 : ¬ nI c = 0 := nI_ne0 (by omega) (by omega)
      have c2 : nI c - 1 = nI (c - 1) := pk_sub (b := 1) (by omega)
      rw [if_neg c1, if_neg c1, c2]
      by_cases d0 : c = 1
      · subst d0
        refine ⟨⟨⟨t1, t2, t3, t4, ?_, t6, fun x hx => ⟨(t7 x hx).1, ?_, (t7 x hx).2.2⟩⟩, ?_, ?_, ?_, bf⟩, (Fr.sI _ _ _ _ _ _ (by decide)).tr (Fr.sI _ _ _ _ _ _ (by decide))⟩
        · show nI l = gA M 13 1
          exact el.symm
        · rcases (by omega : x = 0 ∨ x = 1) with rfl | rfl; exact (t7 0 (by omega)).2.1; exact (t7 1 (by omega)).1
        · show gI st 2 ||| 64 = sAf 1 (gA M 12 0) f0
          rw [s2]
          exact sA_o6 _ _ _ b1 b0 bf
        · exact b0
        · exact Or.inr rfl
      · have d1 : ¬ nI (c - 1) = 0 := nI_ne0 (by omega) (by omega)
        have d2 : ¬ gA (sA M 14 (upd (gA M 14) 1 (nI (c - 1)))) 14 1 ≤ 0 := by
          show ¬ nI (c - 1) ≤ 0
          exact nI_nle (by omega) (by omega)
        rw [if_neg d1, if_neg d2]
        refine ⟨⟨⟨t1, t2, t3, t4, rfl, t6, fun x hx => ⟨(t7 x hx).1, ?_, (t7 x hx).2.2⟩⟩, s2, b0, b1, bf⟩, Fr.sI _ _ _ _ _ _ (by decide)⟩
        rcases (by omega : x = 0 ∨ x = 1) with rfl | rfl; exact (t7 0 (by omega)).2.1; exact ⟨c - 1, by omega, rfl⟩
theorem tcd_is (st : CS) : cController_timersCountDown st = cst1 (cst0 st) := by
  have e1 : ∀ s y, cController_timersCountDown_b7 s y = cController_timersCountDown_b24 (if y = 0 then s else sI s 2 (gI s 2 ||| 32)) := by
    intro s y
    unfold cController_timersCountDown_b7
    split <;> rfl
  have e2 : ∀ s, cController_timersCountDown_b24 s = cst1 s := fun s => rfl
  unfold cController_timersCountDown
  rw [e1, e2]
  rfl
theorem tcd {f0 : Int32} {st M : CS} (h : RVt f0 st M) : RVt f0 (cController_timersCountDown st) (tm2 M) ∧ Fr [2, 19, 22] [] [] st (cController_timersCountDown st) := by
  rw [tcd_is]
  obtain ⟨a1, a2⟩ := cst0_eq h
  obtain ⟨b1, b2⟩ := cst1_eq a1
  exact ⟨b1, a2.tr b2⟩
/-! the stages of a tick -/
theorem st1 (T : CS) {x : Nat} (hx : x < 2 ^ 31) (e : gI T 15 = nI x) : ∃ U, m_tick_b117 T = m_tick_b134 U ∧ (o_m_tick_b134 U → o_m_tick_b117 T) ∧ Fr [15] [] [] T U ∧ gI U 15 = nI (x - 1) := by
  unfold m_tick_b117 o_m_tick_b117
  by_cases c : x = 0
  · subst c
    have c1 : gI T 15 ≤ 0 := by rw [e]; decide
    rw [if_pos c1]
    exact ⟨T, rfl, fun o => ⟨fun _ => o, fun q => absurd c1 q⟩, Fr.rf _ _ _ _, e⟩
  · have c1 : ¬ gI T 15 ≤ 0 := by rw [e]; exact nI_nle (by omega) hx
    rw [if_neg c1]
    exact ⟨_, rfl, fun o => ⟨fun q => absurd q c1, fun _ => o⟩, Fr.sI _ _ _ _ _ _ (by decide), by
      show gI T 15 - 1 = nI (x - 1)
      rw [e]
      exact pk_sub (b := 1) (by omega)⟩
def cp5 (m : CS) (s p : Nat) : Nat → Int32 := if gI m 19 = 1 then va_cpy (gA m 6) (gA m 5) (1024 * s) (1024 * p) 1024 else gA m 5
def cp6 (m : CS) (s p : Nat) : Nat → Int32 := if gI m 19 = 1 then gA m 6 else va_cpy (gA m 5) (gA m 6) (1024 * p) (1024 * s) 1024
theorem st2 (U : CS) {d s p : Nat} (hd : d < 2 ^ 31) (e : gI U 18 = nI d) (hs : s < 16) (hp : p < 16) (e20 : gI U 20 = nI s) (e21 : gI U 21 = nI p) : ∃ V, m_tick_b134 U = m_tick_b162 V ∧ (o_m_tick_b162 V → o_m_tick_b134 U) ∧ Fr [18, 23] [6] [5, 6] U V ∧ gI V 18 = nI (d - 1) ∧
    (d ≠ 1 → gA V 5 = gA U 5 ∧ gA V 6 = gA U 6 ∧ gI V 23 = gI U 23 ∧ gL V 6 = gL U 6) ∧ (d = 1 → gA V 5 = cp5 U s p ∧ gA V 6 = cp6 U s p ∧ gI V 23 = 1 ∧ gL V 6 = gL U 6 + 1024) := by
  unfold m_tick_b134 o_m_tick_b134
  by_cases c : d = 0
  · subst c
    have c1 : gI U 18 ≤ 0 := by rw [e]; decide
    rw [if_pos c1]
    exact ⟨U, rfl, fun o => ⟨fun _ => o, fun q => absurd c1 q⟩, Fr.rf _ _ _ _, e, fun _ => ⟨rfl, rfl, rfl, rfl⟩, fun q => by omega⟩
  · have c1 : ¬ gI U 18 ≤ 0 := by rw [e]; exact nI_nle (by omega) hd
    have c2 : gI U 18 - 1 = nI (d - 1) := by rw [e]; exact pk_sub (b := 1) (by omega)
    rw [if_neg c1, c2]
    by_cases c3 : d = 1
    · subst c3
      have c4 : nI (1 - 1) = 0 := rfl
      rw [if_pos c4]
      unfold cp5 cp6
      by_cases e19 : gI U 19 = 1
      · obtain ⟨r1, r2⟩ := copy_to (sI U 18 (nI (1 - 1))) hs hp e20 e21 e19
        rw [if_pos e19, if_pos e19]
        refine ⟨_, rfl, fun o => ⟨fun q => absurd q c1, fun _ => ⟨fun _ => ⟨r1, o⟩, fun q => absurd c4 q⟩⟩, ?_⟩
        rw [r2]
        exact ⟨(((Fr.sI _ _ _ _ _ _ (by decide)).tr (Fr.sA _ _ _ _ _ _ (by decide))).tr (Fr.sI _ _ _ _ _ _ (by decide))).tr (Fr.sL _ _ _ _ _ _ (by decide)), rfl, fun q => absurd rfl q, fun _ => ⟨rfl, rfl, rfl, rfl⟩⟩
      · obtain ⟨r1, r2⟩ := copy_from (sI U 18 (nI (1 - 1))) hs hp e20 e21 e19
        rw [if_neg e19, if_neg e19]
        refine ⟨_, rfl, fun o => ⟨fun q => absurd q c1, fun _ => ⟨fun _ => ⟨r1, o⟩, fun q => absurd c4 q⟩⟩, ?_⟩
        rw [r2]
        exact ⟨(((Fr.sI _ _ _ _ _ _ (by decide)).tr (Fr.sA _ _ _ _ _ _ (by decide))).tr (Fr.sI _ _ _ _ _ _ (by decide))).tr (Fr.sL _ _ _ _ _ _ (by decide)), rfl, fun q => absurd rfl q, fun _ => ⟨rfl, rfl, rfl, rfl⟩⟩
    · have c4 : ¬ nI (d - 1) = 0 := nI_ne0 (by omega) (by omega)
      rw [if_neg c4]
      exact ⟨_, rfl, fun o => ⟨fun q => absurd q c1, fun _ => ⟨fun q => absurd q c4, fun _ => o⟩⟩, Fr.sI _ _ _ _ _ _ (by decide), rfl, fun _ => ⟨rfl, rfl, rfl, rfl⟩, fun q => absurd q c3⟩
theorem st3 (V : CS) {m : Nat} (hm : m < 2 ^ 31) (e : gL V 0 = lN m) : (m % 20000 ≠ 0 → m_tick_b162 V = V ∧ o_m_tick_b162 V) ∧ (m % 20000 = 0 → m_tick_b162 V = m_paint V ∧ (o_m_paint V → o_m_tick_b162 V)) := by
  unfold m_tick_b162 o_m_tick_b162
  rw [e, show (20000 : Int64) = lN 20000 from rfl, pk_lRem (by omega) (by omega) (by omega)]
  rcases lgc_tri (a := m % 20000) (b := 0) (by omega) (by omega) with ⟨c, z⟩ | ⟨c, z⟩ | ⟨c, z⟩
  · omega
  · have z' : lg_cmp (lN (m % 20000)) 0 = 0 := z
    rw [z', if_pos rfl]
    exact ⟨fun q => absurd c q, fun _ => ⟨rfl, fun o => ⟨fun _ => ⟨o, trivial⟩, fun q => absurd rfl q⟩⟩⟩
  · have z' : lg_cmp (lN (m % 20000)) 0 = 1 := z
    rw [z', if_neg (show ¬ (1 : Int32) = 0 by decide)]
    exact ⟨fun _ => ⟨rfl, fun q => absurd q (by decide), fun _ => trivial⟩, fun q => by omega⟩
