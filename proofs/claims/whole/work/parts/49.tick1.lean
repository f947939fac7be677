/-! PURE 9: frames; the copy; the timers -/
def Fr (I L A : List Nat) (s s' : CS) : Prop := (∀ j, j ∉ I → gI s' j = gI s j) ∧ (∀ j, j ∉ L → gL s' j = gL s j) ∧ (∀ j, j ∉ A → gA s' j = gA s j) ∧ (∀ j, gB s' j = gB s j)
theorem Fr.rf (I L A : List Nat) (s : CS) : Fr I L A s s := ⟨fun _ _ => rfl, fun _ _ => rfl, fun _ _ => rfl, fun _ => rfl⟩
theorem Fr.tr {I L A : List Nat} {s t u : CS} (h : Fr I L A s t) (g : Fr I L A t u) : Fr I L A s u := ⟨fun j hj => (g.1 j hj).trans (h.1 j hj), fun j hj => (g.2.1 j hj).trans (h.2.1 j hj), fun j hj => (g.2.2.1 j hj).trans (h.2.2.1 j hj), fun j => (g.2.2.2 j).trans (h.2.2.2 j)⟩
theorem Fr.mono {I L A I2 L2 A2 : List Nat} {s t : CS} (h : Fr I L A s t) (h1 : ∀ j ∈ I, j ∈ I2) (h2 : ∀ j ∈ L, j ∈ L2) (h3 : ∀ j ∈ A, j ∈ A2) : Fr I2 L2 A2 s t := ⟨fun j hj => h.1 j (fun q => hj (h1 j q)), fun j hj => h.2.1 j (fun q => hj (h2 j q)), fun j hj => h.2.2.1 j (fun q => hj (h3 j q)), h.2.2.2⟩
theorem Fr.sI (I L A : List Nat) (s : CS) (k : Nat) (v : Int32) (hk : k ∈ I) : Fr I L A s (sI s k v) := ⟨fun j hj => if_neg (fun (e : j = k) => hj (by rw [e]; exact hk)), fun _ _ => rfl, fun _ _ => rfl, fun _ => rfl⟩
theorem Fr.sL (I L A : List Nat) (s : CS) (k : Nat) (v : Int64) (hk : k ∈ L) : Fr I L A s (sL s k v) := ⟨fun _ _ => rfl, fun j hj => if_neg (fun (e : j = k) => hj (by rw [e]; exact hk)), fun _ _ => rfl, fun _ => rfl⟩
theorem Fr.sA (I L A : List Nat) (s : CS) (k : Nat) (f : Nat → Int32) (hk : k ∈ A) : Fr I L A s (sA s k f) := ⟨fun _ _ => rfl, fun _ _ => rfl, fun j hj => if_neg (fun (e : j = k) => hj (by rw [e]; exact hk)), fun _ => rfl⟩
theorem sA_self (st : CS) (k : Nat) : sA st k (gA st k) = st := by
  have e : (fun j => if j = k then st.2.2.1 k else st.2.2.1 j) = st.2.2.1 := by
    funext j
    by_cases c : j = k
    · rw [if_pos c, c]
    · rw [if_neg c]
  show (st.1, st.2.1, (fun j => if j = k then st.2.2.1 k else st.2.2.1 j), st.2.2.2) = st
  rw [e]
theorem cpy_0 (f g : Nat → Int32) (sp dp : Nat) : va_cpy f g sp dp 0 = g := by
  funext k
  exact if_neg (by omega)
theorem cpy_s (f g : Nat → Int32) (sp dp n : Nat) : upd (va_cpy f g sp dp n) (dp + n) (f (sp + n)) = va_cpy f g sp dp (n + 1) := by
  funext k
  by_cases c : k = dp + n
  · subst c
    rw [pk_us, pk_cpy_in (by omega) (by omega), show dp + n - dp = n by omega]
  · rw [pk_un c]
    by_cases d : dp ≤ k ∧ k < dp + n
    · rw [pk_cpy_in d.1 d.2, pk_cpy_in d.1 (by omega)]
    · rw [pk_cpy_out (by omega), pk_cpy_out (by omega)]
theorem cpy_eq {f f' g g' : Nat → Int32} {sp dp n M : Nat} (hf : ∀ j, j < M → f j = f' j) (hg : ∀ j, j < M → g j = g' j) (hs : sp + n ≤ M) : ∀ j, j < M → va_cpy f g sp dp n j = va_cpy f' g' sp dp n j := by
  intro j hj
  by_cases d : dp ≤ j ∧ j < dp + n
  · rw [pk_cpy_in d.1 d.2, pk_cpy_in d.1 d.2, hf _ (by omega)]
  · rw [pk_cpy_out (by omega), pk_cpy_out (by omega), hg j hj]
theorem ix1024 (p i : Nat) : (1024 : Int32) * nI p + nI i = nI (1024 * p + i) := by rw [show (1024 : Int32) * nI p = nI (1024 * p) from pk_mul 1024 p, nI_add]
theorem copy_to (mt : CS) {s p : Nat} (hs : s < 16) (hp : p < 16) (e20 : gI mt 20 = nI s) (e21 : gI mt 21 = nI p) (e19 : gI mt 19 = 1) : o_m_copy mt ∧ m_copy mt = sL (sI (sA mt 5 (va_cpy (gA mt 6) (gA mt 5) (1024 * s) (1024 * p) 1024)) 23 1) 6 (gL mt 6 + 1024) := by
  have loop : ∀ n i, i + n = 1025 → i ≤ 1024 → o_m_copy_b2 n (sA mt 5 (va_cpy (gA mt 6) (gA mt 5) (1024 * s) (1024 * p) i)) (nI i) ∧ m_copy_b2 n (sA mt 5 (va_cpy (gA mt 6) (gA mt 5) (1024 * s) (1024 * p) i)) (nI i) = some (sL (sI (sA mt 5 (va_cpy (gA mt 6) (gA mt 5) (1024 * s) (1024 * p) 1024)) 23 1) 6 (gL mt 6 + 1024)) := by
    intro n
    induction n with
    | zero => intro i h1 h2; omega
    | succ n ih =>
      intro i h1 h2
      simp only [m_copy_b2, o_m_copy_b2, m_copy_b66, o_m_copy_b66]
      rcases Nat.lt_or_ge i 1024 with q | q
      · have c : ¬ (1024 : Int32) ≤ nI i := nI_ge (b := 1024) q (by decide)
        have c19 : gI (sA mt 5 (va_cpy (gA mt 6) (gA mt 5) (1024 * s) (1024 * p) i)) 19 = 1 := e19
        have c20 : gI (sA mt 5 (va_cpy (gA mt 6) (gA mt 5) (1024 * s) (1024 * p) i)) 20 = nI s := e20
        have c21 : gI (sA mt 5 (va_cpy (gA mt 6) (gA mt 5) (1024 * s) (1024 * p) i)) 21 = nI p := e21
        rw [if_neg c, if_pos c19, c20, c21, ix1024, ix1024, nI_clamp (by omega), nI_clamp (by omega), sA_sA, nI_1]
        have e : upd (gA (sA mt 5 (va_cpy (gA mt 6) (gA mt 5) (1024 * s) (1024 * p) i)) 5) (1024 * p + i) (gA (sA mt 5 (va_cpy (gA mt 6) (gA mt 5) (1024 * s) (1024 * p) i)) 6 (1024 * s + i)) = va_cpy (gA mt 6) (gA mt 5) (1024 * s) (1024 * p) (i + 1) := cpy_s _ _ _ _ _
        rw [e]
        obtain ⟨r1, r2⟩ := ih (i + 1) (by omega) (by omega)
        exact ⟨⟨fun z => absurd z c, fun _ => ⟨fun _ => ⟨vp_in_nI (by omega) (by decide), vp_in_nI (by omega) (by decide), r1⟩, fun z => absurd c19 z⟩⟩, r2⟩
      · have hi : i = 1024 := by omega
        subst hi
        have c : (1024 : Int32) ≤ nI 1024 := by decide
        rw [if_pos c]
        exact ⟨⟨fun _ => trivial, fun z => absurd c z⟩, rfl⟩
  obtain ⟨r1, r2⟩ := loop 1025 0 rfl (by omega)
  rw [cpy_0, sA_self] at r1 r2
  exact ⟨⟨r1, _, r2⟩, congrArg (fun z => z.getD mt) r2⟩
theorem copy_from (mt : CS) {s p : Nat} (hs : s < 16) (hp : p < 16) (e20 : gI mt 20 = nI s) (e21 : gI mt 21 = nI p) (e19 : ¬ gI mt 19 = 1) : o_m_copy mt ∧ m_copy mt = sL (sI (sA mt 6 (va_cpy (gA mt 5) (gA mt 6) (1024 * p) (1024 * s) 1024)) 23 1) 6 (gL mt 6 + 1024) := by
  have loop : ∀ n i, i + n = 1025 → i ≤ 1024 → o_m_copy_b2 n (sA mt 6 (va_cpy (gA mt 5) (gA mt 6) (1024 * p) (1024 * s) i)) (nI i) ∧ m_copy_b2 n (sA mt 6 (va_cpy (gA mt 5) (gA mt 6) (1024 * p) (1024 * s) i)) (nI i) = some (sL (sI (sA mt 6 (va_cpy (gA mt 5) (gA mt 6) (1024 * p) (1024 * s) 1024)) 23 1) 6 (gL mt 6 + 1024)) := by
    intro n
    induction n with
    | zero => intro i h1 h2; omega
    | succ n ih =>
      intro i h1 h2
      simp only [m_copy_b2, o_m_copy_b2, m_copy_b66, o_m_copy_b66]
      rcases Nat.lt_or_ge i 1024 with q | q
      · have c : ¬ (1024 : Int32) ≤ nI i := nI_ge (b := 1024) q (by decide)
        have c19 : ¬ gI (sA mt 6 (va_cpy (gA mt 5) (gA mt 6) (1024 * p) (1024 * s) i)) 19 = 1 := e19
        have c20 : gI (sA mt 6 (va_cpy (gA mt 5) (gA mt 6) (1024 * p) (1024 * s) i)) 20 = nI s := e20
        have c21 : gI (sA mt 6 (va_cpy (gA mt 5) (gA mt 6) (1024 * p) (1024 * s) i)) 21 = nI p := e21
        rw [if_neg c, if_neg c19, c20, c21, ix1024, ix1024, nI_clamp (by omega), nI_clamp (by omega), sA_sA, nI_1]
        have e : upd (gA (sA mt 6 (va_cpy (gA mt 5) (gA mt 6) (1024 * p) (1024 * s) i)) 6) (1024 * s + i) (gA (sA mt 6 (va_cpy (gA mt 5) (gA mt 6) (1024 * p) (1024 * s) i)) 5 (1024 * p + i)) = va_cpy (gA mt 5) (gA mt 6) (1024 * p) (1024 * s) (i + 1) := cpy_s _ _ _ _ _
        rw [e]
        obtain ⟨r1, r2⟩ := ih (i + 1) (by omega) (by omega)
        exact ⟨⟨fun z => absurd z c, fun _ => ⟨fun z => absurd z c19, fun _ => ⟨vp_in_nI (by omega) (by decide), vp_in_nI (by omega) (by decide), r1⟩⟩⟩, r2⟩
      · have hi : i = 1024 := by omega
        subst hi
        have c : (1024 : Int32) ≤ nI 1024 := by decide
        rw [if_pos c]
        exact ⟨⟨fun _ => trivial, fun z => absurd c z⟩, rfl⟩
  obtain ⟨r1, r2⟩ := loop 1025 0 rfl (by omega)
  rw [cpy_0, sA_self] at r1 r2
  exact ⟨⟨r1, _, r2⟩, congrArg (fun z => z.getD mt) r2⟩
/-! the timers -/
def tmr2 (mt : CS) (x1 : Int32) : CS := if (gA mt 14) x1.toNatClampNeg ≤ 0 then sA (sA mt 14 (upd (gA mt 14) x1.toNatClampNeg ((gA mt 13) x1.toNatClampNeg))) 12 (upd (gA (sA mt 14 (upd (gA mt 14) x1.toNatClampNeg ((gA mt 13) x1.toNatClampNeg))) 12) x1.toNatClampNeg 1) else mt
def tmr (mt : CS) (x1 : Int32) : CS := if (gA mt 13) x1.toNatClampNeg = 0 then mt else if (gA mt 14) x1.toNatClampNeg = 0 then tmr2 (sA mt 14 (upd (gA mt 14) x1.toNatClampNeg 65535)) x1 else tmr2 (sA mt 14 (upd (gA mt 14) x1.toNatClampNeg ((gA mt 14) x1.toNatClampNeg - 1))) x1
theorem Fr_tmr2 (mt : CS) (x : Int32) : Fr [] [] [12, 14] mt (tmr2 mt x) := by
  unfold tmr2
  split
  · exact (Fr.sA _ _ _ _ _ _ (by decide)).tr (Fr.sA _ _ _ _ _ _ (by decide))
  · exact Fr.rf _ _ _ _
theorem Fr_tmr (mt : CS) (x : Int32) : Fr [] [] [12, 14] mt (tmr mt x) := by
  unfold tmr
  split
  · exact Fr.rf _ _ _ _
  · split
    · exact (Fr.sA _ _ _ _ _ _ (by decide)).tr (Fr_tmr2 _ _)
    · exact (Fr.sA _ _ _ _ _ _ (by decide)).tr (Fr_tmr2 _ _)
theorem tick_s (n : Nat) (mt : CS) (x1 : Int32) (c : ¬ (2 : Int32) ≤ x1) (d : lg_cmp ((gL mt 0) - (gL mt 0) / (4 : Int64) * (4 : Int64)) (0 : Int64) = 0) (hx : vp_in x1 2) : m_tick_b22 (n + 1) mt x1 = m_tick_b22 n (tmr mt x1) (x1 + 1) ∧ (o_m_tick_b22 n (tmr mt x1) (x1 + 1) → o_m_tick_b22 (n + 1) mt x1) := by
  simp only [m_tick_b22, o_m_tick_b22, m_tick_b111, o_m_tick_b111, m_tick_b79, o_m_tick_b79, m_tick_b80, o_m_tick_b80, m_tick_b104, o_m_tick_b104]
  unfold tmr tmr2
  rw [if_neg c, if_pos d]
  by_cases c1 : (gA mt 13) x1.toNatClampNeg = 0
  · rw [if_pos c1, if_pos c1]
    exact ⟨rfl, fun r => ⟨fun q => absurd q c, fun _ => ⟨fun _ => ⟨hx, fun _ => r, fun q => absurd c1 q⟩, fun q => absurd d q⟩⟩⟩
  · rw [if_neg c1, if_neg c1]
    by_cases c2 : (gA mt 14) x1.toNatClampNeg = 0
    · rw [if_pos c2, if_pos c2]
      by_cases c3 : gA (sA mt 14 (upd (gA mt 14) x1.toNatClampNeg 65535)) 14 x1.toNatClampNeg ≤ 0
      · rw [if_pos c3, if_pos c3]
        exact ⟨rfl, fun r => ⟨fun q => absurd q c, fun _ => ⟨fun _ => ⟨hx, fun q => absurd q c1, fun _ => ⟨hx, fun _ => ⟨hx, hx, fun _ => ⟨hx, hx, hx, r⟩, fun q => absurd c3 q⟩, fun q => absurd c2 q⟩⟩, fun q => absurd d q⟩⟩⟩
      · rw [if_neg c3, if_neg c3]
        exact ⟨rfl, fun r => ⟨fun q => absurd q c, fun _ => ⟨fun _ => ⟨hx, fun q => absurd q c1, fun _ => ⟨hx, fun _ => ⟨hx, hx, fun q => absurd q c3, fun _ => r⟩, fun q => absurd c2 q⟩⟩, fun q => absurd d q⟩⟩⟩
    · rw [if_neg c2, if_neg c2]
      by_cases c3 : gA (sA mt 14 (upd (gA mt 14) x1.toNatClampNeg (gA mt 14 x1.toNatClampNeg - 1))) 14 x1.toNatClampNeg ≤ 0
      · rw [if_pos c3, if_pos c3]
        exact ⟨rfl, fun r => ⟨fun q => absurd q c, fun _ => ⟨fun _ => ⟨hx, fun q => absurd q c1, fun _ => ⟨hx, fun q => absurd q c2, fun _ => ⟨hx, hx, hx, fun _ => ⟨hx, hx, hx, r⟩, fun q => absurd c3 q⟩⟩⟩, fun q => absurd d q⟩⟩⟩
      · rw [if_neg c3, if_neg c3]
        exact ⟨rfl, fun r => ⟨fun q => absurd q c, fun _ => ⟨fun _ => ⟨hx, fun q => absurd q c1, fun _ => ⟨hx, fun q => absurd q c2, fun _ => ⟨hx, hx, hx, fun q => absurd q c3, fun _ => r⟩⟩⟩, fun q => absurd d q⟩⟩⟩
def tm2 (mt : CS) : CS := tmr (tmr mt 0) 1
theorem tick_is (mt : CS) {n : Nat} (hn : n + 1 < 2 ^ 31) (h0 : gL mt 0 = lN n) : m_tick mt = m_tick_b117 (if (n + 1) % 4 = 0 then tm2 (sL (sL mt 2 (gL mt 2 + 1)) 0 (lN (n + 1))) else sL (sL mt 2 (gL mt 2 + 1)) 0 (lN (n + 1))) ∧ (o_m_tick_b117 (if (n + 1) % 4 = 0 then tm2 (sL (sL mt 2 (gL mt 2 + 1)) 0 (lN (n + 1))) else sL (sL mt 2 (gL mt 2 + 1)) 0 (lN (n + 1))) → o_m_tick mt) := by
  unfold m_tick o_m_tick
  rw [h0, lN_1]
  have e0 : ∀ m : CS, gL m 0 = lN (n + 1) → (lg_cmp ((gL m 0) - (gL m 0) / (4 : Int64) * (4 : Int64)) (0 : Int64) = 0 ↔ (n + 1) % 4 = 0) := by
    intro m hm
    rw [hm, show (4 : Int64) = lN 4 from rfl, pk_lRem (by omega) (by omega) (by omega)]
    rcases lgc_tri (a := (n + 1) % 4) (b := 0) (by omega) (by omega) with ⟨c, e⟩ | ⟨c, e⟩ | ⟨c, e⟩
    · omega
    · have e' : lg_cmp (lN ((n + 1) % 4)) 0 = 0 := e
      rw [e']
      exact ⟨fun _ => c, fun _ => rfl⟩
    · have e' : lg_cmp (lN ((n + 1) % 4)) 0 = 1 := e
      rw [e']
      exact ⟨fun q => absurd q (by decide), fun q => by omega⟩
  generalize hm0 : sL (sL mt 2 (gL mt 2 + 1)) 0 (lN (n + 1)) = m0
  have hL : gL m0 0 = lN (n + 1) := by rw [← hm0]; rfl
  by_cases c : (n + 1) % 4 = 0
  · rw [if_pos c]
    have hL1 : gL (tmr m0 0) 0 = lN (n + 1) := by rw [(Fr_tmr m0 0).2.1 0 (by decide), hL]
    obtain ⟨a1, a2⟩ := tick_s 2 m0 0 (by decide) ((e0 m0 hL).mpr c) (by unfold vp_in; decide)
    obtain ⟨b1, b2⟩ := tick_s 1 (tmr m0 0) 1 (by decide) ((e0 _ hL1).mpr c) (by unfold vp_in; decide)
    have c1 : m_tick_b22 1 (tmr (tmr m0 0) 1) 2 = some (m_tick_b117 (tm2 m0)) := rfl
    have z1 : m_tick_b22 3 m0 0 = some (m_tick_b117 (tm2 m0)) := a1.trans (b1.trans c1)
    refine ⟨congrArg (fun z => z.getD m0) z1, fun o => ⟨a2 (b2 ?_), _, z1⟩⟩
    show o_m_tick_b22 1 (tmr (tmr m0 0) 1) 2
    simp only [o_m_tick_b22]
    exact ⟨fun _ => o, fun q => absurd (by decide) q⟩
  · rw [if_neg c]
    have d : ¬ lg_cmp ((gL m0 0) - (gL m0 0) / (4 : Int64) * (4 : Int64)) (0 : Int64) = 0 := fun q => c ((e0 m0 hL).mp q)
    have z1 : m_tick_b22 3 m0 0 = some (m_tick_b117 m0) := by
      simp only [m_tick_b22]
      rw [if_neg (by decide), if_neg d]
    refine ⟨congrArg (fun z => z.getD m0) z1, fun o => ⟨?_, _, z1⟩⟩
    simp only [o_m_tick_b22]
    exact ⟨fun q => absurd q (by decide), fun _ => ⟨fun q => absurd q d, fun _ => o⟩⟩
