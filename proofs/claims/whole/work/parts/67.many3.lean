/-! PURE 27: a transfer of many, whole -/
theorem Dn.to {N : Nat} {M mt : CS} {c m : CS × Int32} (h : Dn N M c m) (h0 : gI M 0 = gI mt 0) (hB : gB M 0 = gB mt 0) : Dn N mt c m := by
  obtain ⟨a1, a2, a3, a4, a5⟩ := h
  refine ⟨a1, a2, a3, a4.trans h0, ?_⟩
  rw [hB] at a5
  exact a5
theorem tk_a (c : Nat) : (2 : Int32) + nI c = nI (2 + c) := by rw [show (2 : Int32) = nI 2 from rfl, nI_add]
theorem tk_0 (c : Nat) : ((2 : Int32) + nI c) + 0 = nI (2 + c) := by rw [Int32.add_zero, tk_a]
theorem tk_3 (c : Nat) : ((2 : Int32) + nI c) + 3 = nI (2 + c + 3) := by rw [tk_a, show (3 : Int32) = nI 3 from rfl, nI_add]
theorem many_end {N : Nat} (hN : N + 16 < 2 ^ 30) {w : Int32} {mt S M : CS} {s : Nat} (hs : s < 67108864) (hK : Kp N w mt s (cntB w 16) S M) {mo : Nat} (hmo : mo < 4) (em : m_mode M = nI mo) {l : Int32} (hl : Lw w 0 l) {jn : Nat} (hjn : jn < 16) (en : (ushr w 16) &&& 15 = nI jn) (base : Int32) :
    o_m_many_b367 M w (nI (cntB w 16)) l (bif bt w 22 then 1 else 0) (bif bt w 20 then 1 else 0) (bif bt w 15 then 1 else 0) (nI jn) base (nI s) (nI mo) (bif uB w then 1 else 0) ∧ Dn (N + 16) mt (cProcessor_transferMany_b145 S (nI (cntB w 16)) base (nI s)) (m_many_b367 M w (nI (cntB w 16)) l (bif bt w 22 then 1 else 0) (bif bt w 20 then 1 else 0) (bif bt w 15 then 1 else 0) (nI jn) base (nI s) (nI mo) (bif uB w then 1 else 0)) := by
  have z : ¬ (1 : Int32) = 0 := by decide
  have hw : gI S 32 = w := hK.1.2.2.2.2
  have c16 : cntB w 16 ≤ 16 := cntB_le w 16
  have md : cRegisters_mode S = nI mo := (sg_mode hK.1.sg).trans em
  obtain ⟨m', hm', h14⟩ : ∃ m', m' = (bif uB w then 0 else mo) ∧ (((bif uB w then (1 : Int32) else 0) = 0 ∧ m' = mo) ∨ ((bif uB w then (1 : Int32) else 0) = 1 ∧ m' = 0)) := by
    refine ⟨_, rfl, ?_⟩
    cases uB w
    · exact Or.inl ⟨rfl, rfl⟩
    · exact Or.inr ⟨rfl, rfl⟩
  have hm4 : m' < 4 := by rcases h14 with ⟨_, q⟩ | ⟨_, q⟩ <;> omega
  unfold m_many_b367 o_m_many_b367 m_many_b376t o_m_many_b376t cProcessor_transferMany_b145
  rw [is_w hw 1048576 20 (by decide) (by decide)]
  by_cases b20 : bt w 20 = true
  · have h13 : ((bif uB w then (1 : Int32) else 0) = 0 ∧ nI mo = nI m') ∨ ((bif uB w then (1 : Int32) else 0) = 1 ∧ m' = 0) := by
      rcases h14 with ⟨q1, q2⟩ | q
      · exact Or.inl ⟨q1, by rw [q2]⟩
      · exact Or.inr q
    obtain ⟨S', M', a1, a2, a3, a4, a5, a6⟩ := load_loop hs b20 hm4 h13 l (nI jn) base 15 0 17 S M 0 rfl rfl hK
    have e : cProcessor_loadMany S (nI s) = S' := by
      have q : cProcessor_loadMany S (nI s) = cProcessor_loadMany_b29 S (nI s) (nI m') := by
        unfold cProcessor_loadMany cProcessor_loadMany_b22
        rw [is_w hw 4194304 22 (by decide) (by decide), is_w hw 32768 15 (by decide) (by decide), md, hm']
        unfold uB
        rw [b20]
        cases bt w 22 <;> cases bt w 15 <;> rfl
      rw [q]
      unfold cProcessor_loadMany_b29 cProcessor_loadMany_b41t
      rw [adr_0 hs]
      have a4' : cProcessor_loadMany_b41 17 S (nI m') (nI (adr s 0)) 0 0 = some S' := a4
      rw [a4']
      rfl
    have a5' : m_many_b376 17 M w (nI (cntB w 16)) l (bif bt w 22 then 1 else 0) (bif bt w 20 then 1 else 0) (bif bt w 15 then 1 else 0) (nI jn) base (nI s) (nI mo) (bif uB w then 1 else 0) 0 0 0 = some (m_many_b630 M' (nI (cntB w 16)) 1 (bif bt w 15 then 1 else 0)) := a5
    refine ⟨⟨a6, _, a5'⟩, ?_⟩
    rw [a5', e, b20]
    show Dn (N + 16) mt (if (1 : Int32) = 0 then _ else _) (m_many_b630 M' (nI (cntB w 16)) 1 (bif bt w 15 then 1 else 0))
    rw [if_neg z]
    have hw' : gI S' 32 = w := a1.2.2.2.2
    unfold cProcessor_transferMany_b160 m_many_b630
    rw [is_w hw' 32768 15 (by decide) (by decide), if_neg z, tk_0, tk_3]
    cases bt w 15
    · exact Dn.of (a1.mono (by omega)) a2 a3 (t := 2 + cntB w 16) (by omega) (by omega)
    · exact Dn.of (a1.mono (by omega)) a2 a3 (t := 2 + cntB w 16 + 3) (by omega) (by omega)
  · have b20 : bt w 20 = false := by cases q : bt w 20; rfl; exact absurd q b20
    obtain ⟨S', M', a1, a2, a3, a4, a5, a6⟩ := store_loop hN hs b20 hmo h14 hl hjn base 0 16 0 17 S M rfl rfl hK
    have e : cProcessor_storeMany S (nI s) base = S' := by
      have q : cProcessor_storeMany S (nI s) base = cProcessor_storeMany_b22 S (nI s) base (nI mo) (nI m') := by
        unfold cProcessor_storeMany
        rw [is_w hw 4194304 22 (by decide) (by decide), md, hm']
        unfold uB
        rw [b20]
        cases bt w 22 <;> rfl
      rw [q]
      unfold cProcessor_storeMany_b22 cProcessor_storeMany_b44t
      rw [show cProcessor_part S 16 = nI jn by unfold cProcessor_part; rw [hw]; exact en, adr_0 hs]
      have a4' : cProcessor_storeMany_b44 17 S base (nI mo) (nI m') (nI jn) (nI (adr s 0)) 0 0 = some S' := a4
      rw [a4']
      rfl
    have a5' : m_many_b376 17 M w (nI (cntB w 16)) l (bif bt w 22 then 1 else 0) (bif bt w 20 then 1 else 0) (bif bt w 15 then 1 else 0) (nI jn) base (nI s) (nI mo) (bif uB w then 1 else 0) 0 0 0 = some (m_many_b630 M' (nI (cntB w 16)) 0 (bif bt w 15 then 1 else 0)) := a5
    refine ⟨⟨a6, _, a5'⟩, ?_⟩
    rw [a5', e, b20]
    show Dn (N + 16) mt (S', (2 : Int32) + nI (cntB w 16)) (M', ((2 : Int32) + nI (cntB w 16)) + 0)
    rw [tk_0, tk_a]
    exact Dn.of a1 a2 a3 (t := 2 + cntB w 16) (by omega) (by omega)
theorem many_mid {N : Nat} (hN : N + 16 < 2 ^ 30) {w : Int32} {mt S M : CS} {s : Nat} (hs : s < 67108864) (hK : Kp N w mt s (cntB w 16) S M) {mo : Nat} (hmo : mo < 4) (em : m_mode M = nI mo) {l : Int32} (hl : Lw w 0 l) {jn : Nat} (hjn : jn < 16) (en : (ushr w 16) &&& 15 = nI jn) (base : Int32) :
    o_m_many_b325 M w (nI (cntB w 16)) l (bif bt w 23 then 1 else 0) (bif bt w 22 then 1 else 0) (bif bt w 21 then 1 else 0) (bif bt w 20 then 1 else 0) (bif bt w 15 then 1 else 0) (nI jn) base (nI s) (nI mo) (bif uB w then 1 else 0) ∧ Dn (N + 16) mt (cProcessor_transferMany_b94 S (nI (cntB w 16)) (nI jn) base (nI s) 1) (m_many_b325 M w (nI (cntB w 16)) l (bif bt w 23 then 1 else 0) (bif bt w 22 then 1 else 0) (bif bt w 21 then 1 else 0) (bif bt w 20 then 1 else 0) (bif bt w 15 then 1 else 0) (nI jn) base (nI s) (nI mo) (bif uB w then 1 else 0)) := by
  have z : ¬ (1 : Int32) = 0 := by decide
  have hw : gI S 32 = w := hK.1.2.2.2.2
  have md : cRegisters_mode S = nI mo := (sg_mode hK.1.sg).trans em
  have E0 := many_end hN hs hK hmo em hl hjn en base
  unfold o_m_many_b325 m_many_b325 cProcessor_transferMany_b94
  rw [if_neg z, is_w hw 2097152 21 (by decide) (by decide), is_w hw 8388608 23 (by decide) (by decide)]
  cases b21 : bt w 21
  · refine ⟨⟨fun _ => E0.1, fun q => absurd rfl q⟩, ?_⟩
    show Dn _ _ (if (0 : Int32) = 0 then _ else _) (if (0 : Int32) = 0 then _ else _)
    rw [if_pos rfl, if_pos rfl]
    exact E0.2
  · by_cases c15 : jn = 15
    · subst c15
      have l15 : (15 : Int32) ≤ nI 15 := by decide
      refine ⟨⟨fun _ => E0.1, fun _ => ⟨fun _ => E0.1, fun q => absurd l15 q⟩⟩, ?_⟩
      show Dn _ _ (if (1 : Int32) = 0 then _ else _) (if (1 : Int32) = 0 then _ else _)
      rw [if_neg z, if_neg z, if_pos (show nI 15 = 15 from rfl), if_pos l15]
      exact E0.2
    · have l15 : ¬ (15 : Int32) ≤ nI jn := nI_ge (b := 15) (by omega) (by decide)
      have k15 : ¬ nI jn = 15 := nI_n15 (by omega)
      have G : ∀ v, o_m_many_b364 M w (nI (cntB w 16)) l (bif bt w 22 then 1 else 0) (bif bt w 20 then 1 else 0) (bif bt w 15 then 1 else 0) (nI jn) base (nI s) (nI mo) (bif uB w then 1 else 0) (nI mo) (nI jn) v ∧ Dn (N + 16) mt (cProcessor_transferMany_b142 S (nI (cntB w 16)) base (nI s) (nI jn) v) (m_many_b364 M w (nI (cntB w 16)) l (bif bt w 22 then 1 else 0) (bif bt w 20 then 1 else 0) (bif bt w 15 then 1 else 0) (nI jn) base (nI s) (nI mo) (bif uB w then 1 else 0) (nI mo) (nI jn) v) := by
        intro v
        obtain ⟨g1, g2, g3⟩ := hK.give hmo (j := jn) (by omega) v
        have em' : m_mode (m_give M (nI mo) (nI jn) v) = nI mo := by
          unfold m_mode at em ⊢
          rw [g3]
          exact em
        have E1 := many_end hN hs g2 hmo em' hl hjn en base
        unfold o_m_many_b364 m_many_b364 cProcessor_transferMany_b142 cProcessor_become
        rw [md]
        exact ⟨⟨g1, E1.1⟩, E1.2⟩
      refine ⟨⟨fun _ => E0.1, fun _ => ⟨fun q => absurd q l15, fun _ => ⟨fun _ => (G _).1, fun _ => (G _).1⟩⟩⟩, ?_⟩
      show Dn _ _ (if (1 : Int32) = 0 then _ else _) (if (1 : Int32) = 0 then _ else _)
      rw [if_neg z, if_neg z, if_neg k15, if_neg l15]
      cases bt w 23
      · show Dn _ _ (if (0 : Int32) = 0 then _ else _) (if (0 : Int32) = 0 then _ else _)
        rw [if_pos rfl, if_pos rfl]
        exact (G _).2
      · show Dn _ _ (if (1 : Int32) = 0 then _ else _) (if (1 : Int32) = 0 then _ else _)
        rw [if_neg z, if_neg z]
        exact (G _).2
theorem many_go {N : Nat} (hN : N + 16 < 2 ^ 30) {w : Int32} {st mt : CS} (h : RI N w st mt) {l : Int32} (hl : Lw w 0 l) {jn : Nat} (hjn : jn < 16) (en : (ushr w 16) &&& 15 = nI jn) (base y0 : Int32) :
    o_m_many_b206 mt w (nI (cntB w 16)) l (bif bt w 23 then 1 else 0) (bif bt w 22 then 1 else 0) (bif bt w 21 then 1 else 0) (bif bt w 20 then 1 else 0) (bif bt w 15 then 1 else 0) (nI jn) base y0 ∧ Dn (N + 16) mt (if ushr y0 26 = 0 then cProcessor_transferMany_b94 (cProcessor_findAll st y0 (nI (cntB w 16))).1 (nI (cntB w 16)) (nI jn) base y0 (cProcessor_findAll st y0 (nI (cntB w 16))).2 else ((cProcessor_take st 4).1, (cProcessor_take st 4).2)) (m_many_b206 mt w (nI (cntB w 16)) l (bif bt w 23 then 1 else 0) (bif bt w 22 then 1 else 0) (bif bt w 21 then 1 else 0) (bif bt w 20 then 1 else 0) (bif bt w 15 then 1 else 0) (nI jn) base y0) := by
  have c16 : cntB w 16 ≤ 16 := cntB_le w 16
  unfold o_m_many_b206 m_many_b206 o_m_many_b236t m_many_b236t
  by_cases c : ushr y0 26 = 0
  · obtain ⟨s, hs, rfl⟩ := addr_N c
    obtain ⟨mo, hmo, em⟩ := mode_N mt
    have ef : cProcessor_findAll st (nI s) (nI (cntB w 16)) = (cProcessor_findAll_b11 (cntB w 16 + 1) st (nI s) (nI (cntB w 16)) (nI mo) 0).getD (st, 0) := by
      unfold cProcessor_findAll cProcessor_findAll_b11t
      rw [nI_clamp (by omega), sg_mode h.sg, em]
    rw [if_pos c, if_pos c, ef, em]
    have hK : Kp N w mt s 0 st mt := ⟨h, rfl, rfl, fun j hj => absurd hj (by omega)⟩
    rcases find_loop hs c16 (nI mo) l (bif bt w 23 then 1 else 0) (bif bt w 21 then 1 else 0) (nI jn) base (cntB w 16) 0 17 st mt (by omega) rfl hK with ⟨S', M', a1, a2, a3, a4, a5, a6, a7⟩ | ⟨S', M', a1, a2, a3, a4, a5⟩
    · have f : cProcessor_findAll_b11 (cntB w 16 + 1) st (nI s) (nI (cntB w 16)) (nI mo) 0 = some (S', 0) := a5
      have g : m_many_b236 17 mt w (nI (cntB w 16)) l (bif bt w 23 then 1 else 0) (bif bt w 22 then 1 else 0) (bif bt w 21 then 1 else 0) (bif bt w 20 then 1 else 0) (bif bt w 15 then 1 else 0) (nI jn) base (nI s) (nI mo) 0 = some (m_trap M' 3 3 16 8) := a6
      obtain ⟨t1, t2⟩ := trap_eq a1.1 a1.sg a1.2.2.2.1 (k := 3) (by decide)
      refine ⟨⟨fun _ => ⟨a7 t1, _, g⟩, fun q => absurd c q⟩, ?_⟩
      rw [f, g]
      have t3 : Dn (N + 16) mt (cProcessor_take S' 3) (m_trap M' 3 3 16 8) := (Dn.to t2 a2 a3).mono (by omega)
      show Dn (N + 16) mt (cProcessor_transferMany_b94 S' (nI (cntB w 16)) (nI jn) base (nI s) 0) (m_trap M' 3 3 16 8)
      unfold cProcessor_transferMany_b94
      rw [if_pos rfl]
      exact t3
    · have f : cProcessor_findAll_b11 (cntB w 16 + 1) st (nI s) (nI (cntB w 16)) (nI mo) 0 = some (S', 1) := a3
      have em' : m_mode M' = nI mo := by
        unfold m_mode at em ⊢
        rw [a2]
        exact em
      obtain ⟨m1, m2⟩ := many_mid hN hs a1 hmo em' hl hjn en base
      have g : m_many_b236 17 mt w (nI (cntB w 16)) l (bif bt w 23 then 1 else 0) (bif bt w 22 then 1 else 0) (bif bt w 21 then 1 else 0) (bif bt w 20 then 1 else 0) (bif bt w 15 then 1 else 0) (nI jn) base (nI s) (nI mo) 0 = some (m_many_b325 M' w (nI (cntB w 16)) l (bif bt w 23 then 1 else 0) (bif bt w 22 then 1 else 0) (bif bt w 21 then 1 else 0) (bif bt w 20 then 1 else 0) (bif bt w 15 then 1 else 0) (nI jn) base (nI s) (nI mo) (bif uB w then 1 else 0)) := a4
      refine ⟨⟨fun _ => ⟨a5 m1, _, g⟩, fun q => absurd c q⟩, ?_⟩
      rw [f, g]
      exact m2
  · obtain ⟨t1, t2⟩ := trap_eq h.1 h.sg h.2.2.2.1 (k := 4) (by decide)
    rw [if_neg c, if_neg c]
    exact ⟨⟨fun q => absurd q c, fun _ => ⟨t1, trivial⟩⟩, t2.mono (by omega)⟩
theorem many_eq {N : Nat} (hN : N + 16 < 2 ^ 30) {w : Int32} {st mt : CS} (h : RI N w st mt) : o_m_many mt w ∧ Dn (N + 16) mt (cProcessor_transferMany st) (m_many mt w) := by
  have z : ¬ (1 : Int32) = 0 := by decide
  have hw : gI st 32 = w := h.2.2.2.2
  have c16 : cntB w 16 ≤ 16 := cntB_le w 16
  obtain ⟨l, hl, e1, e2⟩ := cnt_eq mt w
  obtain ⟨jn, hjn, en⟩ := rng_and (ushr w 16) (m := 15) 4 rfl
  have en' : (w >>> ((16 : Int32) &&& 31)) &&& 15 = nI jn := by rw [f_16]; exact en
  have pn : cProcessor_part st 16 = nI jn := by unfold cProcessor_part; rw [hw]; exact en
  obtain ⟨n1, n2⟩ := op_eq h.1 h.sg h.2.2.2.1 hjn
  rw [e1]
  unfold eM cProcessor_transferMany
  unfold eO at e2
  rw [hw, bc_eq w, pn, n1]
  by_cases c0 : cntB w 16 = 0
  · have c0' : nI (cntB w 16) = 0 := by rw [c0]; rfl
    rw [if_pos c0', if_pos c0]
    exact ⟨e2 (fun q => absurd c0 q), Dn.of (h.mono (by omega)) rfl rfl (t := 1) (by omega) (by omega)⟩
  · have c0' : ¬ nI (cntB w 16) = 0 := nI_ne0 (by omega) (by omega)
    rw [if_neg c0', if_neg c0]
    obtain ⟨d1, d2⟩ := b58_is mt w (nI (cntB w 16)) l (bif bt w 24 then 1 else 0)
    rw [d1]
    have O := fun o => e2 (fun _ => d2 o)
    unfold o_m_many_b143 at O
    unfold m_many_b143 cProcessor_transferMany_b50 cProcessor_transferMany_b70
    rw [en'] at O ⊢
    have G := fun y0 => many_go hN h hl hjn en (m_operand mt (nI jn)) y0
    rw [is_w hw 8388608 23 (by decide) (by decide), is_w hw 16777216 24 (by decide) (by decide)]
    have pz : (bif false then (1 : Int32) else 0) = 0 := rfl
    have nz : ¬ (bif true then (1 : Int32) else 0) = 0 := z
    have ez : (bif false then (1 : Int32) else 0) = (bif false then (1 : Int32) else 0) := rfl
    have fz : (bif true then (1 : Int32) else 0) = (bif true then (1 : Int32) else 0) := rfl
    have iz : ¬ (bif false then (1 : Int32) else 0) = (bif true then (1 : Int32) else 0) := by decide
    have jz : ¬ (bif true then (1 : Int32) else 0) = (bif false then (1 : Int32) else 0) := by decide
    cases b23 : bt w 23 <;> cases b24 : bt w 24
    · rw [b23, b24] at O
      rw [b23] at G
      have H := G (m_operand mt (nI jn) - 4 * nI (cntB w 16) + 4)
      refine ⟨O ⟨n2, fun _ => ⟨fun _ => H.1, fun q => absurd pz q⟩, fun q => absurd pz q⟩, ?_⟩
      simp only [if_pos pz, if_pos ez]
      exact H.2
    · rw [b23, b24] at O
      rw [b23] at G
      have H := G (m_operand mt (nI jn) - 4 * nI (cntB w 16))
      refine ⟨O ⟨n2, fun _ => ⟨fun q => absurd q nz, fun _ => H.1⟩, fun q => absurd pz q⟩, ?_⟩
      simp only [if_pos pz, if_neg nz, if_neg iz]
      rw [Int32.add_zero]
      exact H.2
    · rw [b23, b24] at O
      rw [b23] at G
      have H := G (m_operand mt (nI jn))
      refine ⟨O ⟨n2, fun q => absurd q nz, fun _ => ⟨fun _ => H.1, fun q => absurd pz q⟩⟩, ?_⟩
      simp only [if_pos pz, if_neg nz, if_neg jz]
      rw [Int32.add_zero]
      exact H.2
    · rw [b23, b24] at O
      rw [b23] at G
      have H := G (m_operand mt (nI jn) + 4)
      refine ⟨O ⟨n2, fun q => absurd q nz, fun _ => ⟨fun q => absurd q nz, fun _ => H.1⟩⟩, ?_⟩
      simp only [if_neg nz, if_pos fz]
      exact H.2
