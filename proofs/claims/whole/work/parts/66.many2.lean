/-! PURE 26: the words of a list, moved -/
theorem one_k (k : Nat) (hk : k < 32) : (1 : Int32) <<< (nI k &&& 31) = nI (2 ^ k) := b_ext fun i hi => by
  rw [b_1k k hk hi, b_pow k hi]
  by_cases c : i = k
  · rw [decide_eq_true c, decide_eq_true c.symm]
  · rw [decide_eq_false c, decide_eq_false (fun q => c q.symm)]
theorem is_k {st : CS} {w : Int32} (hw : gI st 32 = w) (k : Nat) (hk : k < 32) : cProcessor_is st ((1 : Int32) <<< (nI k &&& 31)) = (bif bt w k then 1 else 0) := by
  rw [one_k k hk]
  exact is_w hw _ k hk rfl
theorem Kp.rd {N : Nat} {w : Int32} {mt S M : CS} {s c : Nat} (h : Kp N w mt s c S M) {k : Nat} (hk : k < c) : ∃ S1 M1 v, cBus_read S (gA S 8 k) (nI (adr s k)) = (S1, v) ∧ Kp N w mt s c S1 M1 ∧ gI M1 1 = gI M 1 ∧ (gA M 4 k = -1 → o_m_readFar M (nI (adr s k)) ∧ m_readFar M (nI (adr s k)) = (M1, v)) ∧ (¬ gA M 4 k = -1 → vp_in (gA M 4 k) 16384 ∧ M1 = M ∧ v = gA M 5 (gA M 4 k).toNatClampNeg) := by
  obtain ⟨hR, h0, hB, hL⟩ := h
  obtain ⟨S1, M1, v, e1, r1, g0, kc, km, a1, a2⟩ := rd_eq hR (adr_lt s k) (hL k hk)
  refine ⟨S1, M1, v, e1, ⟨r1, g0.trans h0, by rw [km.2.2.2.2.2]; exact hB, fun j hj => by rw [kc.2.1, km.2.2.2.2.1]; exact hL j hj⟩, km.1, a1, fun q => ?_⟩
  obtain ⟨b1, -, b3, b4⟩ := a2 q
  exact ⟨b1, b3, b4⟩
theorem adr_c {s k : Nat} (hs : s < 67108864) (hk : k < 64) : (nI s + 4 * nI k) &&& 67108860 = nI (adr s k) := adr_k hs hk
/-- the reference reads one word of the list -/
theorem ref_rd {N : Nat} {w : Int32} {mt S M : CS} {s c : Nat} (hs : s < 67108864) (h : Kp N w mt s c S M) {k : Nat} (hk : k < c) (hc : c ≤ 16) (hL : bt w 20 = true) {md : Nat} {x13 x14 : Int32} (h14 : (x14 = 0 ∧ x13 = nI md) ∨ (x14 = 1 ∧ md = 0)) {i : Nat} (hi : i < 16) (hb : bt w i = true) (x2 x3 x6 x9 x10 x11 x16 : Int32) (n : Nat) :
    ∃ S1 M1 v, cBus_read S ((gA S 8) (nI k &&& 15).toNatClampNeg) (nI (adr s k)) = (S1, v) ∧ Kp N w mt s c S1 M1 ∧ gI M1 1 = gI M 1 ∧
      m_many_b376 (n + 1) M w x2 x3 x6 (bif bt w 20 then 1 else 0) x9 x10 x11 (nI s) x13 x14 (nI k) x16 (nI i) = m_many_b457 (m_many_b376 n) M1 w x2 x3 x6 1 x9 x10 x11 (nI s) x13 x14 (nI k) (nI i) (nI md) v ∧
      (o_m_many_b457 (o_m_many_b376 n) M1 w x2 x3 x6 1 x9 x10 x11 (nI s) x13 x14 (nI k) (nI i) (nI md) v → o_m_many_b376 (n + 1) M w x2 x3 x6 (bif bt w 20 then 1 else 0) x9 x10 x11 (nI s) x13 x14 (nI k) x16 (nI i)) := by
  have z : ¬ (1 : Int32) = 0 := by decide
  have cl : (nI k &&& 15).toNatClampNeg = k := by rw [nand 4 rfl (by omega) (by omega), nI_clamp (by omega)]
  have clk : (nI k).toNatClampNeg = k := nI_clamp (by omega)
  have vk : vp_in (nI k) 16 := vp_in_nI (by omega) (by decide)
  obtain ⟨S1, M1, v, e1, K1, g1, a1, a2⟩ := h.rd hk
  refine ⟨S1, M1, v, by rw [cl]; exact e1, K1, g1, ?_⟩
  have n16 : ¬ (16 : Int32) ≤ nI i := nI_ge (b := 16) (by omega) (by decide)
  have nb : ¬ (w >>> (nI i &&& 31)) &&& 1 = 0 := fun q => by rw [(bit1_0 w i (by omega)).mp q] at hb; exact absurd hb (by decide)
  rw [m_many_b376, o_m_many_b376, if_neg n16, if_neg nb, adr_k hs (by omega), hL]
  have core : m_many_b418 (m_many_b376 n) M w x2 x3 x6 1 x9 x10 x11 (nI s) x13 x14 (nI k) x16 (nI i) (nI (adr s k)) (nI md) = m_many_b457 (m_many_b376 n) M1 w x2 x3 x6 1 x9 x10 x11 (nI s) x13 x14 (nI k) (nI i) (nI md) v ∧ (o_m_many_b457 (o_m_many_b376 n) M1 w x2 x3 x6 1 x9 x10 x11 (nI s) x13 x14 (nI k) (nI i) (nI md) v → o_m_many_b418 (o_m_many_b376 n) M w x2 x3 x6 1 x9 x10 x11 (nI s) x13 x14 (nI k) x16 (nI i) (nI (adr s k)) (nI md)) := by
    unfold m_many_b418 o_m_many_b418 m_many_b442 o_m_many_b442
    rw [if_neg z, clk]
    by_cases c : gA M 4 k = -1
    · obtain ⟨b1, b2⟩ := a1 c
      rw [if_pos c, b2]
      exact ⟨rfl, fun o => ⟨fun q => absurd q z, fun _ => ⟨vk, fun _ => ⟨b1, o⟩, fun q => absurd c q⟩⟩⟩
    · obtain ⟨b1, b2, b3⟩ := a2 c
      rw [if_neg c, b2, b3]
      exact ⟨rfl, fun o => ⟨fun q => absurd q z, fun _ => ⟨vk, fun q => absurd q c, fun _ => ⟨vk, b1, o⟩⟩⟩⟩
  rcases h14 with ⟨q1, q2⟩ | ⟨q1, q2⟩
  · subst q1 q2
    rw [if_pos rfl]
    exact ⟨core.1, fun o => ⟨fun q => absurd q n16, fun _ => ⟨fun q => absurd q nb, fun _ => ⟨fun _ => core.2 o, fun q => absurd rfl q⟩⟩⟩⟩
  · subst q1 q2
    rw [if_neg z]
    exact ⟨core.1, fun o => ⟨fun q => absurd q n16, fun _ => ⟨fun q => absurd q nb, fun _ => ⟨fun q => absurd q z, fun _ => core.2 o⟩⟩⟩⟩
theorem Kp.give {N : Nat} {w : Int32} {mt S M : CS} {s c : Nat} (h : Kp N w mt s c S M) {i j : Nat} (hi : i < 4) (hj : j < 15) (v : Int32) : o_m_give M (nI i) (nI j) v ∧ Kp N w mt s c (cRegisters_become S (nI i) (nI j) v) (m_give M (nI i) (nI j) v) ∧ gI (m_give M (nI i) (nI j) v) 1 = gI M 1 := by
  obtain ⟨hR, h0, hB, hL⟩ := h
  obtain ⟨v1, v2, v3, v4, v5⟩ := hR.give hi hj v
  exact ⟨v1, ⟨v2, by rw [v3]; exact h0, by rw [v4]; exact hB, fun j hj => by rw [v5]; exact hL j hj⟩, by rw [v3]⟩
theorem load_loop {N : Nat} {w : Int32} {mt : CS} {s : Nat} (hs : s < 67108864) (hL : bt w 20 = true) {md : Nat} (hmd : md < 4) {x13 x14 : Int32} (h14 : (x14 = 0 ∧ x13 = nI md) ∨ (x14 = 1 ∧ md = 0)) (x3 x10 x11 : Int32) : ∀ r i n S M x16, i + r = 15 → i + n = 17 → Kp N w mt s (cntB w 16) S M → ∃ S' M', RI N w S' M' ∧ gI M' 0 = gI mt 0 ∧ gB M' 0 = gB mt 0 ∧
    cProcessor_loadMany_b41 n S (nI md) (nI (adr s (cntB w i))) (nI (cntB w i)) (nI i) = some S' ∧
    m_many_b376 n M w (nI (cntB w 16)) x3 (bif bt w 22 then 1 else 0) (bif bt w 20 then 1 else 0) (bif bt w 15 then 1 else 0) x10 x11 (nI s) x13 x14 (nI (cntB w i)) x16 (nI i) = some (m_many_b630 M' (nI (cntB w 16)) 1 (bif bt w 15 then 1 else 0)) ∧
    o_m_many_b376 n M w (nI (cntB w 16)) x3 (bif bt w 22 then 1 else 0) (bif bt w 20 then 1 else 0) (bif bt w 15 then 1 else 0) x10 x11 (nI s) x13 x14 (nI (cntB w i)) x16 (nI i) := by
  have z : ¬ (1 : Int32) = 0 := by decide
  have c16 : cntB w 16 ≤ 16 := cntB_le w 16
  intro r
  induction r with
  | zero =>
    intro i n S M x16 hi hn hK
    obtain rfl : i = 15 := by omega
    obtain rfl : n = 2 := by omega
    have hw : gI S 32 = w := hK.1.2.2.2.2
    have l15 : (15 : Int32) ≤ nI 15 := by decide
    have e16 : nI 15 + (1 : Int32) = nI 16 := rfl
    have l16 : (16 : Int32) ≤ nI 16 := by decide
    have n16 : ¬ (16 : Int32) ≤ nI 15 := by decide
    have hs16 : cntB w 16 = cntB w 15 + (bif bt w 15 then 1 else 0) := rfl
    cases b15 : bt w 15
    · refine ⟨S, M, hK.1, hK.2.1, hK.2.2.1, ?_, ?_, ?_⟩
      · rw [cProcessor_loadMany_b41, if_pos l15, is_w hw 32768 15 (by decide) (by decide), b15]
        rfl
      · have nb : (w >>> (nI 15 &&& 31)) &&& 1 = 0 := (bit1_0 w 15 (by decide)).mpr b15
        rw [m_many_b376, if_neg n16, if_pos nb, hL]
        unfold m_many_b603
        rw [e16, m_many_b376, if_pos l16]
        rfl
      · have nb : (w >>> (nI 15 &&& 31)) &&& 1 = 0 := (bit1_0 w 15 (by decide)).mpr b15
        rw [o_m_many_b376]
        unfold o_m_many_b603
        rw [e16, o_m_many_b376]
        exact ⟨fun q => absurd q n16, fun _ => ⟨fun _ => ⟨fun _ => trivial, fun q => absurd l16 q⟩, fun q => absurd nb q⟩⟩
    · rw [b15] at hs16
      have hs' : cntB w 16 = cntB w 15 + 1 := hs16
      obtain ⟨S1, M1, v, e1, K1, g1, r1, r2⟩ := ref_rd hs hK (k := cntB w 15) (by omega) c16 hL h14 (i := 15) (by decide) b15 (nI (cntB w 16)) x3 (bif bt w 22 then 1 else 0) 1 x10 x11 x16 1
      have G := K1.1.goTo v
      have hC : cProcessor_loadMany_b41 2 S (nI md) (nI (adr s (cntB w 15))) (nI (cntB w 15)) (nI 15) = some (cProcessor_loadMany_b141 (cRegisters_goTo S1 v) v) := by
        rw [cProcessor_loadMany_b41, if_pos l15, is_w hw 32768 15 (by decide) (by decide), b15, e1]
        rfl
      rw [hC]
      show ∃ S' M', RI N w S' M' ∧ gI M' 0 = gI mt 0 ∧ gB M' 0 = gB mt 0 ∧ _ ∧ m_many_b376 (1 + 1) M w (nI (cntB w 16)) x3 (bif bt w 22 then 1 else 0) (bif bt w 20 then 1 else 0) 1 x10 x11 (nI s) x13 x14 (nI (cntB w 15)) x16 (nI 15) = _ ∧ o_m_many_b376 (1 + 1) M w (nI (cntB w 16)) x3 (bif bt w 22 then 1 else 0) (bif bt w 20 then 1 else 0) 1 x10 x11 (nI s) x13 x14 (nI (cntB w 15)) x16 (nI 15)
      rw [r1]
      unfold m_many_b457 m_many_b600 m_many_b603
      unfold o_m_many_b457 o_m_many_b600 o_m_many_b603 at r2
      rw [if_pos l15, e16, m_many_b376, if_pos l16, if_neg z, if_neg z]
      rw [e16, o_m_many_b376] at r2
      have o2 := r2 ⟨fun _ => ⟨fun _ => trivial, fun q => absurd l16 q⟩, fun q => absurd l15 q⟩
      cases b22 : bt w 22
      · rw [b22] at o2
        refine ⟨_, _, G, K1.2.1, K1.2.2.1, ?_, ?_, o2⟩
        · unfold cProcessor_loadMany_b141
          rw [is_w G.2.2.2.2 4194304 22 (by decide) (by decide), b22]
          rfl
        · rfl
      · rw [b22] at o2
        obtain ⟨j1, s', j2, -⟩ := G.setSigns v
        refine ⟨cRegisters_setSigns (cRegisters_goTo S1 v) v, m_setSigns (sI M1 3 (v &&& 67108860)) v, j1, ?_, ?_, ?_, ?_, o2⟩
        · rw [j2]; exact K1.2.1
        · rw [j2]; exact K1.2.2.1
        · unfold cProcessor_loadMany_b141
          rw [is_w G.2.2.2.2 4194304 22 (by decide) (by decide), b22]
          rfl
        · rfl
  | succ r ih =>
    intro i n S M x16 hi hn hK
    obtain ⟨n', rfl⟩ : ∃ n', n = n' + 1 := ⟨n - 1, by omega⟩
    have hw : gI S 32 = w := hK.1.2.2.2.2
    have l15 : ¬ (15 : Int32) ≤ nI i := nI_ge (b := 15) (by omega) (by decide)
    have n16 : ¬ (16 : Int32) ≤ nI i := nI_ge (b := 16) (by omega) (by decide)
    have hsi : cntB w (i + 1) = cntB w i + (bif bt w i then 1 else 0) := rfl
    have hmo := cntB_mono w (i + 1) 16 (by omega)
    rw [cProcessor_loadMany_b41, if_neg l15, is_k hw i (by omega)]
    cases bi : bt w i
    · rw [bi] at hsi
      have hs' : cntB w (i + 1) = cntB w i := hsi
      have nb : (w >>> (nI i &&& 31)) &&& 1 = 0 := (bit1_0 w i (by omega)).mpr bi
      obtain ⟨S', M', a1, a2, a3, a4, a5, a6⟩ := ih (i + 1) n' S M x16 (by omega) (by omega) hK
      rw [hs'] at a4 a5 a6
      refine ⟨S', M', a1, a2, a3, ?_, ?_, ?_⟩
      · show cProcessor_loadMany_b97 (cProcessor_loadMany_b41 n') S (nI md) _ _ (nI i) = _
        unfold cProcessor_loadMany_b97
        rw [nI_1]
        exact a4
      · rw [m_many_b376, if_neg n16, if_pos nb]
        unfold m_many_b603
        rw [nI_1]
        exact a5
      · rw [o_m_many_b376]
        unfold o_m_many_b603
        rw [nI_1]
        exact ⟨fun q => absurd q n16, fun _ => ⟨fun _ => a6, fun q => absurd nb q⟩⟩
    · rw [bi] at hsi
      have hs' : cntB w (i + 1) = cntB w i + 1 := hsi
      obtain ⟨S1, M1, v, e1, K1, g1, r1, r2⟩ := ref_rd hs hK (k := cntB w i) (by omega) c16 hL h14 (i := i) (by omega) bi (nI (cntB w 16)) x3 (bif bt w 22 then 1 else 0) (bif bt w 15 then 1 else 0) x10 x11 x16 n'
      obtain ⟨v1, K2, v3⟩ := K1.give hmd (j := i) (by omega) v
      obtain ⟨S', M', a1, a2, a3, a4, a5, a6⟩ := ih (i + 1) n' _ _ v (by omega) (by omega) K2
      rw [hs'] at a4 a5 a6
      rw [e1, r1]
      unfold m_many_b457 m_many_b476 m_many_b600 m_many_b603
      unfold o_m_many_b457 o_m_many_b476 o_m_many_b600 o_m_many_b603 at r2
      rw [if_neg l15, nI_1, nI_1]
      rw [nI_1, nI_1] at r2
      rw [hL] at a5 a6
      refine ⟨S', M', a1, a2, a3, ?_, a5, r2 ⟨fun q => absurd q l15, fun _ => ⟨v1, a6⟩⟩⟩
      show cProcessor_loadMany_b97 (cProcessor_loadMany_b41 n') (cRegisters_become S1 (nI md) (nI i) v) (nI md) ((nI (adr s (cntB w i)) + 4) &&& 67108860) (nI (cntB w i) + 1) (nI i) = _
      unfold cProcessor_loadMany_b97
      rw [adr_s, nI_1, nI_1]
      exact a4
/-! stores -/
theorem one_own : ∀ m, m < 4 → ∀ i, i < 15 → (cRegisters_isOneFor 0 (nI m) (nI i) = 0 ↔ ¬ m_isOwn (nI m) (nI i) = 0) := by decide +kernel
theorem one_same (m i : Int32) : ¬ cRegisters_isOneFor m m i = 0 := by
  unfold cRegisters_isOneFor
  rw [if_pos rfl]
  decide
theorem cntB_0 {w : Int32} : ∀ i, cntB w i = 0 → ∀ j, j < i → bt w j = false := by
  intro i
  induction i with
  | zero => intro _ j hj; omega
  | succ i ih =>
    intro h j hj
    rw [cntB_s] at h
    by_cases q : j = i
    · rw [q]
      cases c : bt w i
      · rfl
      · rw [c] at h
        have h' : cntB w i + 1 = 0 := h
        omega
    · exact ih (by omega) j (by omega)
theorem cntB_pos {w : Int32} {j : Nat} (h : bt w j = true) : ∀ i, j < i → 1 ≤ cntB w i := by
  intro i hi
  have := cntB_mono w (j + 1) i hi
  rw [cntB_s, h] at this
  have e : (bif true then 1 else 0) = 1 := rfl
  omega
theorem low_eq {w l : Int32} (hl : Lw w 0 l) {i : Nat} (hi : i < 16) (hb : bt w i = true) : nI i = l ↔ cntB w i = 0 := by
  rcases hl with ⟨h1, h2⟩ | ⟨j, h1, h2, h3, h4, h5⟩
  · rw [h1 i (by omega) hi] at hb
    exact absurd hb (by decide)
  · rw [h5, nI_eq (by omega) (by omega)]
    constructor
    · intro q
      rw [q]
      have : ∀ k, k ≤ j → cntB w k = 0 := by
        intro k
        induction k with
        | zero => intro _; rfl
        | succ k ih =>
          intro hk
          rw [cntB_s, ih (by omega), h4 k (by omega) (by omega)]
          rfl
      exact this j (Nat.le_refl _)
    · intro q
      rcases Nat.lt_trichotomy i j with c | c | c
      · rw [h4 i (by omega) c] at hb
        exact absurd hb (by decide)
      · exact c
      · have := cntB_pos h3 i c
        omega
/-- the value that is stored -/
theorem store_val {N : Nat} {w : Int32} {S M : CS} (hR : RI N w S M) {mo md : Nat} (hmo : mo < 4) {x14 : Int32} (h14 : (x14 = 0 ∧ md = mo) ∨ (x14 = 1 ∧ md = 0)) {l : Int32} (hl : Lw w 0 l) {i : Nat} (hi : i < 16) (hb : bt w i = true) {jn : Nat} (hjn : jn < 16) (base : Int32) (crec : CS → Int32 → Int32 → Int32 → Int32 → Int32 → Int32 → Int32 → Option CS) (x6 k : Int32) (hk : k = nI (cntB w i)) :
    ∃ v, (if k = 0 then (if nI i = nI jn then (if cRegisters_isOneFor (nI md) (nI mo) (nI i) = 0 then cProcessor_storeMany_b93 crec S base (nI mo) (nI md) (nI jn) x6 k (nI i) else cProcessor_storeMany_b94 crec S base (nI mo) (nI md) (nI jn) x6 k (nI i) 1) else cProcessor_storeMany_b93 crec S base (nI mo) (nI md) (nI jn) x6 k (nI i)) else cProcessor_storeMany_b93 crec S base (nI mo) (nI md) (nI jn) x6 k (nI i)) = cProcessor_storeMany_b132 crec S base (nI mo) (nI md) (nI jn) x6 k (nI i) v ∧
      ∀ (rec : CS → Int32 → Int32 → Int32 → Int32 → Int32 → Int32 → Int32 → Int32 → Int32 → Int32 → Int32 → Int32 → Int32 → Int32 → Option (CS × Int32)) (orec : CS → Int32 → Int32 → Int32 → Int32 → Int32 → Int32 → Int32 → Int32 → Int32 → Int32 → Int32 → Int32 → Int32 → Int32 → Prop) (x2 x6 x9 x12 x15 x16 x18 : Int32), m_many_b418 rec M w x2 l x6 0 x9 (nI jn) base x12 (nI mo) x14 x15 x16 (nI i) x18 (nI md) = m_many_b564 rec M w x2 l x6 0 x9 (nI jn) base x12 (nI mo) x14 x15 x16 (nI i) x18 v ∧ (o_m_many_b564 orec M w x2 l x6 0 x9 (nI jn) base x12 (nI mo) x14 x15 x16 (nI i) x18 v → o_m_many_b418 orec M w x2 l x6 0 x9 (nI jn) base x12 (nI mo) x14 x15 x16 (nI i) x18 (nI md)) := by
  have z : ¬ (1 : Int32) = 0 := by decide
  have hmd : md < 4 := by omega
  have k0 : k = 0 ↔ cntB w i = 0 := by
    rw [hk]
    have := cntB_le w i
    exact nI_eq (b := 0) (by omega) (by omega)
  have hlo := low_eq hl hi hb
  by_cases c15 : i = 15
  · subst c15
    have k15 : nI 15 = 15 := rfl
    have l15 : (15 : Int32) ≤ nI 15 := by decide
    refine ⟨cProcessor_withSigns S 12, ?_, ?_⟩
    · have e : ∀ y, cProcessor_storeMany_b94 crec S base (nI mo) (nI md) (nI jn) x6 k (nI 15) y = cProcessor_storeMany_b132 crec S base (nI mo) (nI md) (nI jn) x6 k (nI 15) (cProcessor_withSigns S 12) := fun y => by
        unfold cProcessor_storeMany_b94
        rw [if_pos k15]
      unfold cProcessor_storeMany_b93
      rw [e, e]
      repeat' split
      all_goals rfl
    · intro rec orec x2 x6 x9 x12 x15 x16 x18
      rw [wsigns_eq hR.sg hR.2.2.2.1]
      have e : ∀ y, m_many_b523 rec M w x2 l x6 0 x9 (nI jn) base x12 (nI mo) x14 x15 x16 (nI 15) x18 y = m_many_b564 rec M w x2 l x6 0 x9 (nI jn) base x12 (nI mo) x14 x15 x16 (nI 15) x18 y ∧ (o_m_many_b564 orec M w x2 l x6 0 x9 (nI jn) base x12 (nI mo) x14 x15 x16 (nI 15) x18 y → o_m_many_b523 orec M w x2 l x6 0 x9 (nI jn) base x12 (nI mo) x14 x15 x16 (nI 15) x18 y) := fun y => by
        unfold m_many_b523 o_m_many_b523
        rw [if_pos l15]
        refine ⟨?_, fun o => ⟨fun _ => ⟨fun _ => o, fun q => absurd l15 q⟩, fun _ => o⟩⟩
        split <;> rfl
      unfold m_many_b418 o_m_many_b418
      rw [if_pos rfl, if_pos k15]
      exact ⟨(e _).1, fun o => ⟨fun _ => ⟨fun _ => (e _).2 o, fun q => absurd k15 q⟩, fun q => absurd rfl q⟩⟩
  · have k15 : ¬ nI i = 15 := nI_n15 (by omega)
    have l15 : ¬ (15 : Int32) ≤ nI i := nI_ge (b := 15) (by omega) (by decide)
    obtain ⟨ge, go⟩ := get_eq hR.1.1 hmd (j := i) (by omega)
    have own : cRegisters_isOneFor (nI md) (nI mo) (nI i) = 0 ↔ (¬ x14 = 0 ∧ ¬ m_isOwn (nI mo) (nI i) = 0) := by
      rcases h14 with ⟨q1, q2⟩ | ⟨q1, q2⟩
      · rw [q1, q2]
        exact ⟨fun q => absurd q (one_same _ _), fun q => absurd rfl q.1⟩
      · rw [q1, q2]
        have := one_own mo hmo i (by omega)
        exact ⟨fun q => ⟨z, this.mp q⟩, fun q => this.mpr q.2⟩
    have e94 : ∀ y, cProcessor_storeMany_b94 crec S base (nI mo) (nI md) (nI jn) x6 k (nI i) y = (if y = 0 then cProcessor_storeMany_b132 crec S base (nI mo) (nI md) (nI jn) x6 k (nI i) (cRegisters_of S (nI md) (nI i)) else cProcessor_storeMany_b132 crec S base (nI mo) (nI md) (nI jn) x6 k (nI i) base) := fun y => by
      unfold cProcessor_storeMany_b94
      rw [if_neg k15]
    have R418 : ∀ (rec : CS → Int32 → Int32 → Int32 → Int32 → Int32 → Int32 → Int32 → Int32 → Int32 → Int32 → Int32 → Int32 → Int32 → Int32 → Option (CS × Int32)) (orec : CS → Int32 → Int32 → Int32 → Int32 → Int32 → Int32 → Int32 → Int32 → Int32 → Int32 → Int32 → Int32 → Int32 → Int32 → Prop) (x2 x6 x9 x12 x15 x16 x18 : Int32), m_many_b418 rec M w x2 l x6 0 x9 (nI jn) base x12 (nI mo) x14 x15 x16 (nI i) x18 (nI md) = m_many_b523 rec M w x2 l x6 0 x9 (nI jn) base x12 (nI mo) x14 x15 x16 (nI i) x18 (m_get M (nI md) (nI i)) ∧ (o_m_many_b523 orec M w x2 l x6 0 x9 (nI jn) base x12 (nI mo) x14 x15 x16 (nI i) x18 (m_get M (nI md) (nI i)) → o_m_many_b418 orec M w x2 l x6 0 x9 (nI jn) base x12 (nI mo) x14 x15 x16 (nI i) x18 (nI md)) := by
      intro rec orec x2 x6 x9 x12 x15 x16 x18
      unfold m_many_b418 o_m_many_b418
      rw [if_pos rfl, if_neg k15]
      exact ⟨rfl, fun o => ⟨fun _ => ⟨fun q => absurd q k15, fun _ => ⟨go, o⟩⟩, fun q => absurd rfl q⟩⟩
    by_cases cb : cntB w i = 0 ∧ i = jn ∧ ¬ cRegisters_isOneFor (nI md) (nI mo) (nI i) = 0
    · obtain ⟨d1, d2, d3⟩ := cb
      refine ⟨base, ?_, ?_⟩
      · rw [if_pos (k0.mpr d1), if_pos (by rw [d2]), if_neg d3, e94, if_neg z]
      · intro rec orec x2 x6 x9 x12 x15 x16 x18
        obtain ⟨a1, a2⟩ := R418 rec orec x2 x6 x9 x12 x15 x16 x18
        rw [a1]
        unfold m_many_b523 m_many_b560
        unfold o_m_many_b523 o_m_many_b560 at a2
        have q10 : nI i = nI jn := by rw [d2]
        have q3 : nI i = l := hlo.mpr d1
        rw [if_pos q10, if_neg l15, if_pos q3]
        by_cases c14 : x14 = 0
        · rw [if_pos c14]
          exact ⟨rfl, fun o => a2 ⟨fun _ => ⟨fun q => absurd q l15, fun _ => ⟨fun _ => ⟨fun _ => o, fun q => absurd c14 q⟩, fun q => absurd q3 q⟩⟩, fun q => absurd q10 q⟩⟩
        · have cw : m_isOwn (nI mo) (nI i) = 0 := Classical.byContradiction fun q => d3 (own.mpr ⟨c14, q⟩)
          rw [if_neg c14, if_pos cw]
          exact ⟨rfl, fun o => a2 ⟨fun _ => ⟨fun q => absurd q l15, fun _ => ⟨fun _ => ⟨fun q => absurd q c14, fun _ => ⟨fun _ => o, fun q => absurd cw q⟩⟩, fun q => absurd q3 q⟩⟩, fun q => absurd q10 q⟩⟩
    · refine ⟨m_get M (nI md) (nI i), ?_, ?_⟩
      · have e93 : cProcessor_storeMany_b93 crec S base (nI mo) (nI md) (nI jn) x6 k (nI i) = cProcessor_storeMany_b132 crec S base (nI mo) (nI md) (nI jn) x6 k (nI i) (m_get M (nI md) (nI i)) := by
          unfold cProcessor_storeMany_b93
          rw [e94, if_pos rfl, ge]
        rw [e93]
        by_cases c1 : k = 0
        · rw [if_pos c1]
          by_cases c2 : nI i = nI jn
          · rw [if_pos c2]
            have c3 : cRegisters_isOneFor (nI md) (nI mo) (nI i) = 0 := Classical.byContradiction fun q => cb ⟨k0.mp c1, (nI_eq (by omega) (by omega)).mp c2, q⟩
            rw [if_pos c3]
          · rw [if_neg c2]
        · rw [if_neg c1]
      · intro rec orec x2 x6 x9 x12 x15 x16 x18
        obtain ⟨a1, a2⟩ := R418 rec orec x2 x6 x9 x12 x15 x16 x18
        rw [a1]
        unfold m_many_b523
        unfold o_m_many_b523 at a2
        by_cases c2 : nI i = nI jn
        · rw [if_pos c2, if_neg l15]
          by_cases c1 : nI i = l
          · have c3 : cRegisters_isOneFor (nI md) (nI mo) (nI i) = 0 := Classical.byContradiction fun q => cb ⟨hlo.mp c1, (nI_eq (by omega) (by omega)).mp c2, q⟩
            obtain ⟨c4, c5⟩ := own.mp c3
            rw [if_pos c1, if_neg c4, if_neg c5]
            exact ⟨rfl, fun o => a2 ⟨fun _ => ⟨fun q => absurd q l15, fun _ => ⟨fun _ => ⟨fun q => absurd q c4, fun _ => ⟨fun q => absurd q c5, fun _ => o⟩⟩, fun q => absurd c1 q⟩⟩, fun q => absurd c2 q⟩⟩
          · rw [if_neg c1]
            exact ⟨rfl, fun o => a2 ⟨fun _ => ⟨fun q => absurd q l15, fun _ => ⟨fun q => absurd q c1, fun _ => o⟩⟩, fun q => absurd c2 q⟩⟩
        · rw [if_neg c2]
          exact ⟨rfl, fun o => a2 ⟨fun q => absurd q c2, fun _ => o⟩⟩
theorem store_loop {N : Nat} (hN : N + 16 < 2 ^ 30) {w : Int32} {mt : CS} {s : Nat} (hs : s < 67108864) (hL : bt w 20 = false) {mo md : Nat} (hmo : mo < 4) {x14 : Int32} (h14 : (x14 = 0 ∧ md = mo) ∨ (x14 = 1 ∧ md = 0)) {l : Int32} (hl : Lw w 0 l) {jn : Nat} (hjn : jn < 16) (base x16 : Int32) : ∀ r i n S M, i + r = 16 → i + n = 17 → Kp (N + cntB w i) w mt s (cntB w 16) S M → ∃ S' M', RI (N + 16) w S' M' ∧ gI M' 0 = gI mt 0 ∧ gB M' 0 = gB mt 0 ∧
    cProcessor_storeMany_b44 n S base (nI mo) (nI md) (nI jn) (nI (adr s (cntB w i))) (nI (cntB w i)) (nI i) = some S' ∧
    m_many_b376 n M w (nI (cntB w 16)) l (bif bt w 22 then 1 else 0) (bif bt w 20 then 1 else 0) (bif bt w 15 then 1 else 0) (nI jn) base (nI s) (nI mo) x14 (nI (cntB w i)) x16 (nI i) = some (m_many_b630 M' (nI (cntB w 16)) 0 (bif bt w 15 then 1 else 0)) ∧
    o_m_many_b376 n M w (nI (cntB w 16)) l (bif bt w 22 then 1 else 0) (bif bt w 20 then 1 else 0) (bif bt w 15 then 1 else 0) (nI jn) base (nI s) (nI mo) x14 (nI (cntB w i)) x16 (nI i) := by
  have z : ¬ (1 : Int32) = 0 := by decide
  have c16 : cntB w 16 ≤ 16 := cntB_le w 16
  intro r
  induction r with
  | zero =>
    intro i n S M hi hn hK
    obtain rfl : i = 16 := by omega
    obtain rfl : n = 1 := by omega
    have l16 : (16 : Int32) ≤ nI 16 := by decide
    refine ⟨S, M, hK.1.mono (by omega), hK.2.1, hK.2.2.1, ?_, ?_, ?_⟩
    · rw [cProcessor_storeMany_b44, if_pos l16]
    · rw [m_many_b376, if_pos l16, hL]
      rfl
    · rw [o_m_many_b376]
      exact ⟨fun _ => trivial, fun q => absurd l16 q⟩
  | succ r ih =>
    intro i n S M hi hn hK
    obtain ⟨n', rfl⟩ : ∃ n', n = n' + 1 := ⟨n - 1, by omega⟩
    have hw : gI S 32 = w := hK.1.2.2.2.2
    have n16 : ¬ (16 : Int32) ≤ nI i := nI_ge (b := 16) (by omega) (by decide)
    have hsi : cntB w (i + 1) = cntB w i + (bif bt w i then 1 else 0) := rfl
    have hmo2 := cntB_mono w (i + 1) 16 (by omega)
    rw [cProcessor_storeMany_b44, if_neg n16, is_k hw i (by omega)]
    cases bi : bt w i
    · rw [bi] at hsi
      have hs' : cntB w (i + 1) = cntB w i := hsi
      have nb : (w >>> (nI i &&& 31)) &&& 1 = 0 := (bit1_0 w i (by omega)).mpr bi
      obtain ⟨S', M', a1, a2, a3, a4, a5, a6⟩ := ih (i + 1) n' S M (by omega) (by omega) (by rw [hs']; exact hK)
      rw [hs'] at a4 a5 a6
      refine ⟨S', M', a1, a2, a3, ?_, ?_, ?_⟩
      · show cProcessor_storeMany_b167 (cProcessor_storeMany_b44 n') S base (nI mo) (nI md) (nI jn) _ _ (nI i) = _
        unfold cProcessor_storeMany_b167
        rw [nI_1]
        exact a4
      · rw [m_many_b376, if_neg n16, if_pos nb]
        unfold m_many_b603
        rw [nI_1]
        exact a5
      · rw [o_m_many_b376]
        unfold o_m_many_b603
        rw [nI_1]
        exact ⟨fun q => absurd q n16, fun _ => ⟨fun _ => a6, fun q => absurd nb q⟩⟩
    · rw [bi] at hsi
      have hs' : cntB w (i + 1) = cntB w i + 1 := hsi
      have nb : ¬ (w >>> (nI i &&& 31)) &&& 1 = 0 := fun q => by rw [(bit1_0 w i (by omega)).mp q] at bi; exact absurd bi (by decide)
      have hk16 : cntB w i < cntB w 16 := by omega
      have cl : (nI (cntB w i) &&& 15).toNatClampNeg = cntB w i := by rw [nand 4 rfl (by omega) (by omega), nI_clamp (by omega)]
      have clk : (nI (cntB w i)).toNatClampNeg = cntB w i := nI_clamp (by omega)
      have vk : vp_in (nI (cntB w i)) 16 := vp_in_nI (by omega) (by decide)
      obtain ⟨v, ev, er⟩ := store_val hK.1 hmo h14 hl (i := i) (by omega) bi hjn base (cProcessor_storeMany_b44 n') (nI (adr s (cntB w i))) (nI (cntB w i)) rfl
      obtain ⟨er1, er2⟩ := er (m_many_b376 n') (o_m_many_b376 n') (nI (cntB w 16)) (bif bt w 22 then 1 else 0) (bif bt w 15 then 1 else 0) (nI s) (nI (cntB w i)) x16 (nI (adr s (cntB w i)))
      obtain ⟨hR, h0, hB, hLc⟩ := id hK
      obtain ⟨q1, q2, q3, q4, q5, q6⟩ := wr_eq hR (by omega) (adr_lt s (cntB w i)) (hLc (cntB w i) hk16) v
      have K2 : Kp (N + cntB w (i + 1)) w mt s (cntB w 16) (cBus_write S (gA S 8 (cntB w i)) (nI (adr s (cntB w i))) v) (wM M (adr s (cntB w i)) (gA M 4 (cntB w i)) v) := by
        refine ⟨?_, q2.trans h0, by rw [q4.2.2.2.2.2]; exact hB, fun j hj => by rw [q3.2.1, q4.2.2.2.2.1]; exact hLc j hj⟩
        rw [hs', ← Nat.add_assoc]
        exact q1
      obtain ⟨S', M', a1, a2, a3, a4, a5, a6⟩ := ih (i + 1) n' _ _ (by omega) (by omega) K2
      rw [hs'] at a4 a5 a6
      have E564 : m_many_b564 (m_many_b376 n') M w (nI (cntB w 16)) l (bif bt w 22 then 1 else 0) 0 (bif bt w 15 then 1 else 0) (nI jn) base (nI s) (nI mo) x14 (nI (cntB w i)) x16 (nI i) (nI (adr s (cntB w i))) v = m_many_b376 n' (wM M (adr s (cntB w i)) (gA M 4 (cntB w i)) v) w (nI (cntB w 16)) l (bif bt w 22 then 1 else 0) 0 (bif bt w 15 then 1 else 0) (nI jn) base (nI s) (nI mo) x14 (nI (cntB w i + 1)) x16 (nI (i + 1)) ∧ (o_m_many_b376 n' (wM M (adr s (cntB w i)) (gA M 4 (cntB w i)) v) w (nI (cntB w 16)) l (bif bt w 22 then 1 else 0) 0 (bif bt w 15 then 1 else 0) (nI jn) base (nI s) (nI mo) x14 (nI (cntB w i + 1)) x16 (nI (i + 1)) → o_m_many_b564 (o_m_many_b376 n') M w (nI (cntB w 16)) l (bif bt w 22 then 1 else 0) 0 (bif bt w 15 then 1 else 0) (nI jn) base (nI s) (nI mo) x14 (nI (cntB w i)) x16 (nI i) (nI (adr s (cntB w i))) v) := by
        unfold m_many_b564 o_m_many_b564 m_many_b583 o_m_many_b583 m_many_b600 o_m_many_b600 m_many_b603 o_m_many_b603 wM
        rw [clk, nI_1, nI_1]
        by_cases c : gA M 4 (cntB w i) = -1
        · rw [if_pos c, if_pos c]
          exact ⟨rfl, fun o => ⟨vk, fun _ => ⟨q5 c, o⟩, fun q => absurd c q⟩⟩
        · rw [if_neg c, if_neg c]
          exact ⟨rfl, fun o => ⟨vk, fun q => absurd q c, fun _ => ⟨vk, q6 c, o⟩⟩⟩
      rw [hL] at a5 a6 ⊢
      refine ⟨S', M', a1, a2, a3, ?_, ?_, ?_⟩
      · have e : (if (bif true then (1 : Int32) else 0) = 0 then cProcessor_storeMany_b167 (cProcessor_storeMany_b44 n') S base (nI mo) (nI md) (nI jn) (nI (adr s (cntB w i))) (nI (cntB w i)) (nI i) else (if nI (cntB w i) = 0 then (if nI i = nI jn then (if cRegisters_isOneFor (nI md) (nI mo) (nI i) = 0 then cProcessor_storeMany_b93 (cProcessor_storeMany_b44 n') S base (nI mo) (nI md) (nI jn) (nI (adr s (cntB w i))) (nI (cntB w i)) (nI i) else cProcessor_storeMany_b94 (cProcessor_storeMany_b44 n') S base (nI mo) (nI md) (nI jn) (nI (adr s (cntB w i))) (nI (cntB w i)) (nI i) 1) else cProcessor_storeMany_b93 (cProcessor_storeMany_b44 n') S base (nI mo) (nI md) (nI jn) (nI (adr s (cntB w i))) (nI (cntB w i)) (nI i)) else cProcessor_storeMany_b93 (cProcessor_storeMany_b44 n') S base (nI mo) (nI md) (nI jn) (nI (adr s (cntB w i))) (nI (cntB w i)) (nI i))) = _ := (if_neg z).trans ev
        rw [e]
        unfold cProcessor_storeMany_b132 cProcessor_storeMany_b155 cProcessor_storeMany_b167
        rw [cl, adr_s, nI_1, nI_1]
        exact a4
      · rw [m_many_b376, if_neg n16, if_neg nb, adr_k hs (by omega)]
        rcases h14 with ⟨p1, p2⟩ | ⟨p1, p2⟩
        · subst p1 p2
          rw [if_pos rfl]
          exact (er1.trans E564.1).trans a5
        · subst p1 p2
          rw [if_neg z]
          exact (er1.trans E564.1).trans a5
      · rw [o_m_many_b376, adr_k hs (by omega)]
        rcases h14 with ⟨p1, p2⟩ | ⟨p1, p2⟩
        · subst p1 p2
          exact ⟨fun q => absurd q n16, fun _ => ⟨fun q => absurd q nb, fun _ => ⟨fun _ => er2 (E564.2 a6), fun q => absurd rfl q⟩⟩⟩
        · subst p1 p2
          exact ⟨fun q => absurd q n16, fun _ => ⟨fun q => absurd q nb, fun _ => ⟨fun q => absurd q z, fun _ => er2 (E564.2 a6)⟩⟩⟩
