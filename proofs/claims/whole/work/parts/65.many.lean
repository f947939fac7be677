/-! PURE 25: the places of a list, found -/
def uB (w : Int32) : Bool := bt w 22 && !(bt w 20 && bt w 15)
/-- what holds along the loops -/
def Kp (N : Nat) (w : Int32) (mt : CS) (s c : Nat) (S M : CS) : Prop := RI N w S M ∧ gI M 0 = gI mt 0 ∧ gB M 0 = gB mt 0 ∧ ∀ j, j < c → Loc (adr s j) (gA S 8 j) (gA M 4 j)
theorem find_loop {N : Nat} {w : Int32} {mt : CS} {s : Nat} (hs : s < 67108864) {cnt : Nat} (hc : cnt ≤ 16) (md x3 x5 x7 x10 x11 : Int32) : ∀ r k n S M, k + r = cnt → k + n = 17 → Kp N w mt s k S M →
    (∃ S' M', RI N w S' M' ∧ gI M' 0 = gI mt 0 ∧ gB M' 0 = gB mt 0 ∧ gI M' 1 = gI M 1 ∧ cProcessor_findAll_b11 (r + 1) S (nI s) (nI cnt) md (nI k) = some (S', 0) ∧ m_many_b236 n M w (nI cnt) x3 x5 (bif bt w 22 then 1 else 0) x7 (bif bt w 20 then 1 else 0) (bif bt w 15 then 1 else 0) x10 x11 (nI s) md (nI k) = some (m_trap M' 3 3 16 8) ∧ (o_m_trap M' 3 3 16 8 → o_m_many_b236 n M w (nI cnt) x3 x5 (bif bt w 22 then 1 else 0) x7 (bif bt w 20 then 1 else 0) (bif bt w 15 then 1 else 0) x10 x11 (nI s) md (nI k))) ∨
    (∃ S' M', Kp N w mt s cnt S' M' ∧ gI M' 1 = gI M 1 ∧ cProcessor_findAll_b11 (r + 1) S (nI s) (nI cnt) md (nI k) = some (S', 1) ∧ m_many_b236 n M w (nI cnt) x3 x5 (bif bt w 22 then 1 else 0) x7 (bif bt w 20 then 1 else 0) (bif bt w 15 then 1 else 0) x10 x11 (nI s) md (nI k) = some (m_many_b325 M' w (nI cnt) x3 x5 (bif bt w 22 then 1 else 0) x7 (bif bt w 20 then 1 else 0) (bif bt w 15 then 1 else 0) x10 x11 (nI s) md (bif uB w then 1 else 0)) ∧ (o_m_many_b325 M' w (nI cnt) x3 x5 (bif bt w 22 then 1 else 0) x7 (bif bt w 20 then 1 else 0) (bif bt w 15 then 1 else 0) x10 x11 (nI s) md (bif uB w then 1 else 0) → o_m_many_b236 n M w (nI cnt) x3 x5 (bif bt w 22 then 1 else 0) x7 (bif bt w 20 then 1 else 0) (bif bt w 15 then 1 else 0) x10 x11 (nI s) md (nI k))) := by
  have z : ¬ (1 : Int32) = 0 := by decide
  intro r
  induction r with
  | zero =>
    intro k n S M hk hn hK
    obtain ⟨n', rfl⟩ : ∃ n', n = n' + 1 := ⟨n - 1, by omega⟩
    have hk' : k = cnt := by omega
    subst hk'
    have c1 : nI k ≤ nI k := nI_le (Nat.le_refl _) (by omega)
    refine Or.inr ⟨S, M, hK, rfl, ?_, ?_, ?_⟩
    · unfold cProcessor_findAll_b11
      rw [if_pos c1]
    · unfold m_many_b236 m_many_b324 m_many_b320 uB
      rw [if_pos c1]
      cases bt w 22 <;> cases bt w 20 <;> cases bt w 15 <;> rfl
    · unfold o_m_many_b236 o_m_many_b324 o_m_many_b320 uB
      cases bt w 22 <;> cases bt w 20 <;> cases bt w 15 <;> intro o
      · exact ⟨fun _ => ⟨fun _ => o, fun q => absurd rfl q⟩, fun q => absurd c1 q⟩
      · exact ⟨fun _ => ⟨fun _ => o, fun q => absurd rfl q⟩, fun q => absurd c1 q⟩
      · exact ⟨fun _ => ⟨fun _ => o, fun q => absurd rfl q⟩, fun q => absurd c1 q⟩
      · exact ⟨fun _ => ⟨fun _ => o, fun q => absurd rfl q⟩, fun q => absurd c1 q⟩
      · exact ⟨fun _ => ⟨fun q => absurd q z, fun _ => ⟨fun _ => o, fun q => absurd rfl q⟩⟩, fun q => absurd c1 q⟩
      · exact ⟨fun _ => ⟨fun q => absurd q z, fun _ => ⟨fun _ => o, fun q => absurd rfl q⟩⟩, fun q => absurd c1 q⟩
      · exact ⟨fun _ => ⟨fun q => absurd q z, fun _ => ⟨fun q => absurd q z, fun _ => ⟨fun _ => o, fun q => absurd rfl q⟩⟩⟩, fun q => absurd c1 q⟩
      · exact ⟨fun _ => ⟨fun q => absurd q z, fun _ => ⟨fun q => absurd q z, fun _ => ⟨fun q => absurd q z, fun _ => o⟩⟩⟩, fun q => absurd c1 q⟩
  | succ r ih =>
    intro k n S M hk hn hK
    obtain ⟨n', rfl⟩ : ∃ n', n = n' + 1 := ⟨n - 1, by omega⟩
    obtain ⟨hR, h0, hB, hL⟩ := id hK
    have hw : gI S 32 = w := hR.2.2.2.2
    have c1 : ¬ nI cnt ≤ nI k := nI_ge (by omega) (by omega)
    have ea := adr_k (k := k) hs (by omega)
    obtain ⟨kd, ekd⟩ : ∃ kd, kd = (bif bt w 20 then (0 : Int32) else 1) := ⟨_, rfl⟩
    have hC : cProcessor_findAll_b11 (r + 1 + 1) S (nI s) (nI cnt) md (nI k) = cProcessor_findAll_b45 (cProcessor_findAll_b11 (r + 1)) S (nI s) (nI cnt) md (nI k) md (nI (adr s k)) kd := by
      rw [cProcessor_findAll_b11, if_neg c1, is_w hw 1048576 20 (by decide) (by decide), ea, ekd]
      cases bt w 20 <;> rfl
    have hM : m_many_b236 (n' + 1) M w (nI cnt) x3 x5 (bif bt w 22 then 1 else 0) x7 (bif bt w 20 then 1 else 0) (bif bt w 15 then 1 else 0) x10 x11 (nI s) md (nI k) = m_many_b269 (m_many_b236 n') M w (nI cnt) x3 x5 (bif bt w 22 then 1 else 0) x7 (bif bt w 20 then 1 else 0) (bif bt w 15 then 1 else 0) x10 x11 (nI s) md (nI k) (nI (adr s k)) md (nI (adr s k)) kd := by
      rw [m_many_b236, if_neg c1, ea, ekd]
      cases bt w 20 <;> rfl
    have hO : o_m_many_b269 (o_m_many_b236 n') M w (nI cnt) x3 x5 (bif bt w 22 then 1 else 0) x7 (bif bt w 20 then 1 else 0) (bif bt w 15 then 1 else 0) x10 x11 (nI s) md (nI k) (nI (adr s k)) md (nI (adr s k)) kd → o_m_many_b236 (n' + 1) M w (nI cnt) x3 x5 (bif bt w 22 then 1 else 0) x7 (bif bt w 20 then 1 else 0) (bif bt w 15 then 1 else 0) x10 x11 (nI s) md (nI k) := by
      rw [o_m_many_b236, ea, ekd]
      cases bt w 20
      · exact fun o => ⟨fun q => absurd q c1, fun _ => ⟨fun _ => o, fun q => absurd rfl q⟩⟩
      · exact fun o => ⟨fun q => absurd q c1, fun _ => ⟨fun q => absurd q z, fun _ => o⟩⟩
    rw [hC, hM]
    obtain ⟨f1, f2, f3⟩ := find_spec hR.1.2.2.1 md kd (adr_lt s k)
    have vk : vp_in (nI k) 16 := vp_in_nI (by omega) (by decide)
    have cl : (nI k &&& 15).toNatClampNeg = k := by rw [nand 4 rfl (by omega) (by omega), nI_clamp (by omega)]
    have clk : (nI k).toNatClampNeg = k := nI_clamp (by omega)
    unfold cProcessor_findAll_b45 m_many_b269 m_many_b299
    unfold o_m_many_b269 o_m_many_b299 at hO
    rw [cl, clk, nI_1]
    rw [clk, nI_1] at hO
    have go : ∀ F W, ¬ m_may M md (nI (adr s k)) kd = 0 → cBus_find S md (nI (adr s k)) kd = F → m_wordAt M (nI (adr s k)) = W → ¬ F = -1 → Loc (adr s k) F W → Kp N w mt s (k + 1) (sA S 8 (upd (gA S 8) k F)) (sA M 4 (upd (gA M 4) k W)) := by
      intro F W _ _ _ _ hl
      refine ⟨hR.fr (Fr.sA _ _ _ _ _ _ (by decide)) (Fr.sA _ _ _ _ _ _ (by decide)), h0, hB, fun j hj => ?_⟩
      show Loc (adr s j) (upd (gA S 8) k F j) (upd (gA M 4) k W j)
      by_cases q : j = k
      · rw [q, pk_us, pk_us]; exact hl
      · rw [pk_un q, pk_un q]; exact hL j (by omega)
    have main : ∀ F W, ¬ m_may M md (nI (adr s k)) kd = 0 → cBus_find S md (nI (adr s k)) kd = F → m_wordAt M (nI (adr s k)) = W → ¬ F = -1 → Loc (adr s k) F W →
        (∃ S' M', RI N w S' M' ∧ gI M' 0 = gI mt 0 ∧ gB M' 0 = gB mt 0 ∧ gI M' 1 = gI M 1 ∧ (if cBus_find S md (nI (adr s k)) kd = -1 then some (S, (0 : Int32)) else cProcessor_findAll_b11 (r + 1) (sA S 8 (upd (gA S 8) k (cBus_find S md (nI (adr s k)) kd))) (nI s) (nI cnt) md (nI (k + 1))) = some (S', 0) ∧ (if m_may M md (nI (adr s k)) kd = 0 then some ((m_trap M 3 3 16 8).1, (m_trap M 3 3 16 8).2) else m_many_b236 n' (sA M 4 (upd (gA M 4) k (m_wordAt M (nI (adr s k))))) w (nI cnt) x3 x5 (bif bt w 22 then 1 else 0) x7 (bif bt w 20 then 1 else 0) (bif bt w 15 then 1 else 0) x10 x11 (nI s) md (nI (k + 1))) = some (m_trap M' 3 3 16 8) ∧ (o_m_trap M' 3 3 16 8 → o_m_many_b236 (n' + 1) M w (nI cnt) x3 x5 (bif bt w 22 then 1 else 0) x7 (bif bt w 20 then 1 else 0) (bif bt w 15 then 1 else 0) x10 x11 (nI s) md (nI k))) ∨
        (∃ S' M', Kp N w mt s cnt S' M' ∧ gI M' 1 = gI M 1 ∧ (if cBus_find S md (nI (adr s k)) kd = -1 then some (S, (0 : Int32)) else cProcessor_findAll_b11 (r + 1) (sA S 8 (upd (gA S 8) k (cBus_find S md (nI (adr s k)) kd))) (nI s) (nI cnt) md (nI (k + 1))) = some (S', 1) ∧ (if m_may M md (nI (adr s k)) kd = 0 then some ((m_trap M 3 3 16 8).1, (m_trap M 3 3 16 8).2) else m_many_b236 n' (sA M 4 (upd (gA M 4) k (m_wordAt M (nI (adr s k))))) w (nI cnt) x3 x5 (bif bt w 22 then 1 else 0) x7 (bif bt w 20 then 1 else 0) (bif bt w 15 then 1 else 0) x10 x11 (nI s) md (nI (k + 1))) = some (m_many_b325 M' w (nI cnt) x3 x5 (bif bt w 22 then 1 else 0) x7 (bif bt w 20 then 1 else 0) (bif bt w 15 then 1 else 0) x10 x11 (nI s) md (bif uB w then 1 else 0)) ∧ (o_m_many_b325 M' w (nI cnt) x3 x5 (bif bt w 22 then 1 else 0) x7 (bif bt w 20 then 1 else 0) (bif bt w 15 then 1 else 0) x10 x11 (nI s) md (bif uB w then 1 else 0) → o_m_many_b236 (n' + 1) M w (nI cnt) x3 x5 (bif bt w 22 then 1 else 0) x7 (bif bt w 20 then 1 else 0) (bif bt w 15 then 1 else 0) x10 x11 (nI s) md (nI k))) := by
      intro F W g1 g2 g3 g4 g5
      rw [g2, g3, if_neg g4, if_neg g1]
      rw [g3] at hO
      rcases ih (k + 1) n' (sA S 8 (upd (gA S 8) k F)) (sA M 4 (upd (gA M 4) k W)) (by omega) (by omega) (go F W g1 g2 g3 g4 g5) with ⟨S', M', a1, a2, a3, a4, a5, a6, a7⟩ | ⟨S', M', a1, a4, a5, a6, a7⟩
      · exact Or.inl ⟨S', M', a1, a2, a3, a4, a5, a6, fun o => hO ⟨f1, fun q => absurd q g1, fun _ => ⟨f2, vk, a7 o⟩⟩⟩
      · exact Or.inr ⟨S', M', a1, a4, a5, a6, fun o => hO ⟨f1, fun q => absurd q g1, fun _ => ⟨f2, vk, a7 o⟩⟩⟩
    rcases f3 with ⟨g1, g2⟩ | ⟨g1, p, hp, hpa, g2, g3⟩ | ⟨g1, g2, g3, g4⟩
    · refine Or.inl ⟨S, M, hR, h0, hB, rfl, ?_, ?_, ?_⟩
      · rw [if_pos g1]
      · rw [if_pos g2]
      · exact fun o => hO ⟨f1, fun _ => ⟨o, trivial⟩, fun q => absurd g2 q⟩
    · exact main (nI p) (nI p) g1 g2 g3 (nI_m1 (by omega)) (Or.inl ⟨p, hp, hpa, rfl, rfl⟩)
    · exact main (-2) (-1) g1 g3 g4 (by decide) (Or.inr ⟨g2, rfl, rfl⟩)
