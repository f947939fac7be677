/-! PURE 28: multiply, branch -/
theorem nz32 {a : Nat} (h : a < 2 ^ 32) (h0 : a ≠ 0) : ¬ nI a = 0 := fun q => by
  have e : (nI a).toBitVec.toNat = a := by
    show (BitVec.ofNat 32 a).toNat = a
    rw [BitVec.toNat_ofNat, Nat.mod_eq_of_lt h]
  rw [q] at e
  exact h0 e.symm
theorem dg_ex (X : Nat) : ∀ k, X / 4 ^ k = 0 → ∃ d, d ≤ k ∧ X / 4 ^ d = 0 ∧ ∀ j, j < d → ¬ X / 4 ^ j = 0 := by
  intro k
  induction k with
  | zero =>
    intro h
    exact ⟨0, Nat.le_refl 0, h, fun j hj => absurd hj (Nat.not_lt_zero j)⟩
  | succ k ih =>
    intro h
    by_cases c : X / 4 ^ k = 0
    · obtain ⟨d, d1, d2, d3⟩ := ih c
      exact ⟨d, by omega, d2, d3⟩
    · refine ⟨k + 1, Nat.le_refl _, h, fun j hj q => c ?_⟩
      obtain ⟨e, rfl⟩ : ∃ e, k = j + e := ⟨k - j, by omega⟩
      rw [Nat.pow_add, ← Nat.div_div_eq_div_mul, q, Nat.zero_div]
theorem pr_loop {X d : Nat} (hX : X < 2 ^ 32) (hd : d ≤ 16) (h0 : X / 4 ^ d = 0) (h1 : ∀ j, j < d → ¬ X / 4 ^ j = 0) : ∀ r j n, j + r = d → r < n → cProcessor_pairsOfBits_b4 n (nI (X / 4 ^ j)) (nI j) = some (nI d) := by
  intro r
  induction r with
  | zero =>
    intro j n hj hn
    obtain ⟨n', rfl⟩ : ∃ n', n = n' + 1 := ⟨n - 1, by omega⟩
    have e : j = d := by omega
    have z : nI (X / 4 ^ j) = 0 := by rw [e, h0]; rfl
    rw [cProcessor_pairsOfBits_b4, if_pos z, e]
  | succ r ih =>
    intro j n hj hn
    obtain ⟨n', rfl⟩ : ∃ n', n = n' + 1 := ⟨n - 1, by omega⟩
    have lt : X / 4 ^ j < 2 ^ 32 := Nat.lt_of_le_of_lt (Nat.div_le_self _ _) hX
    have nz := nz32 lt (h1 j (by omega))
    have l : ¬ (16 : Int32) ≤ nI j := nI_ge (b := 16) (by omega) (by decide)
    have u : ushr (nI (X / 4 ^ j)) 2 = nI (X / 4 ^ (j + 1)) := by
      have u1 : ushr (nI (X / 4 ^ j)) 2 = nI (X / 4 ^ j / 2 ^ 2) := pk_ushrN lt 2 2 (by decide)
      have u2 : 4 ^ j * 2 ^ 2 = 4 ^ (j + 1) := (Nat.pow_succ ..).symm
      rw [u1, Nat.div_div_eq_div_mul, u2]
    rw [cProcessor_pairsOfBits_b4, if_neg nz, if_neg l, u, nI_1]
    exact ih (j + 1) n' (by omega) (by omega)
theorem dv_2 : ∀ k, k < 16 → nI (2 * k) / 2 + 1 = nI (k + 1) := by decide +kernel
theorem tw_loop (M : CS) {X d T : Nat} (hX : X < 2 ^ 32) (hd : d ≤ 16) (h0 : X / 4 ^ d = 0) (h1 : ∀ j, j < d → ¬ X / 4 ^ j = 0) (hT : (d ≤ 1 ∧ T = 1) ∨ (1 < d ∧ T = d)) : ∀ r k n t, k + r = 16 → r < n → 1 ≤ k → ((d ≤ k ∧ t = T) ∨ (k < d ∧ t = k)) → m_multiply_b122 n M (nI X) (nI t) (nI (2 * k)) = some (M, 1 + nI T) ∧ o_m_multiply_b122 n M (nI X) (nI t) (nI (2 * k)) := by
  intro r
  induction r with
  | zero =>
    intro k n t hk hn h1k ht
    obtain ⟨n', rfl⟩ : ∃ n', n = n' + 1 := ⟨n - 1, by omega⟩
    obtain rfl : k = 16 := by omega
    have l : (32 : Int32) ≤ nI (2 * 16) := by decide
    have e : t = T := by omega
    rw [m_multiply_b122, o_m_multiply_b122, if_pos l, e]
    exact ⟨rfl, fun _ => trivial, fun q => absurd l q⟩
  | succ r ih =>
    intro k n t hk hn h1k ht
    obtain ⟨n', rfl⟩ : ∃ n', n = n' + 1 := ⟨n - 1, by omega⟩
    have l : ¬ (32 : Int32) ≤ nI (2 * k) := nI_ge (b := 32) (by omega) (by decide)
    have u : ushr (nI X) (nI (2 * k)) = nI (X / 4 ^ k) := by
      have u1 : ushr (nI X) (nI (2 * k)) = nI (X / 2 ^ (2 * k)) := pk_ushrN hX (nI (2 * k)) (2 * k) (s_u (2 * k) (by omega))
      have u2 : (2 : Nat) ^ (2 * k) = 4 ^ k := Nat.pow_mul ..
      rw [u1, u2]
    have x2 : nI (2 * k) + 2 = nI (2 * (k + 1)) := by
      show nI (2 * k) + nI 2 = _
      rw [nI_add, show 2 * k + 2 = 2 * (k + 1) by omega]
    rw [m_multiply_b122, o_m_multiply_b122, if_neg l, u]
    unfold m_multiply_b144 o_m_multiply_b144
    rw [x2]
    by_cases c : k < d
    · have nz := nz32 (Nat.lt_of_le_of_lt (Nat.div_le_self _ _) hX) (h1 k c)
      have dv : nI (2 * k) / 2 + 1 = nI (k + 1) := dv_2 k (by omega)
      obtain ⟨i1, i2⟩ := ih (k + 1) n' (k + 1) (by omega) (by omega) (by omega) (by omega)
      rw [if_neg nz, dv]
      exact ⟨i1, fun q => absurd q l, fun _ => ⟨fun q => absurd q nz, fun _ => i2⟩⟩
    · have z0 : nI (X / 4 ^ k) = 0 := by
        have e : X / 4 ^ k = 0 := by
          obtain ⟨e, rfl⟩ : ∃ e, k = d + e := ⟨k - d, by omega⟩
          rw [Nat.pow_add, ← Nat.div_div_eq_div_mul, h0, Nat.zero_div]
        rw [e]
        rfl
      obtain ⟨i1, i2⟩ := ih (k + 1) n' t (by omega) (by omega) (by omega) (by omega)
      rw [if_pos z0]
      exact ⟨i1, fun q => absurd q l, fun _ => ⟨fun _ => i2, fun q => absurd z0 q⟩⟩
theorem mul_t (x : Int32) : ∃ T, 1 ≤ T ∧ T ≤ 16 ∧ (1 : Int32) + (if (1 : Int32) < cProcessor_pairsOfBits x then cProcessor_pairsOfBits x else 1) = nI (1 + T) ∧ ∀ M, m_multiply_b116 M x = (M, nI (1 + T)) ∧ o_m_multiply_b116 M x := by
  obtain ⟨X, hX, ex⟩ : ∃ X, X < 2 ^ 32 ∧ x = nI X := ⟨x.toBitVec.toNat, x.toBitVec.isLt, (nI_tn x).symm⟩
  subst ex
  have z16 : X / 4 ^ 16 = 0 := by
    rw [show (4 : Nat) ^ 16 = 4294967296 by decide]
    omega
  obtain ⟨d, hd, h0, h1⟩ := dg_ex X 16 z16
  obtain ⟨T, hT⟩ : ∃ T, (d ≤ 1 ∧ T = 1) ∨ (1 < d ∧ T = d) := by
    by_cases c : d ≤ 1
    · exact ⟨1, Or.inl ⟨c, rfl⟩⟩
    · exact ⟨d, Or.inr ⟨by omega, rfl⟩⟩
  have p : cProcessor_pairsOfBits (nI X) = nI d := by
    have q := pr_loop hX hd h0 h1 d 0 17 (by omega) (by omega)
    rw [Nat.pow_zero, Nat.div_one] at q
    have q' : cProcessor_pairsOfBits_b4 17 (nI X) 0 = some (nI d) := q
    unfold cProcessor_pairsOfBits cProcessor_pairsOfBits_b4t
    rw [q']
    rfl
  have t1 : (1 : Int32) + nI T = nI (1 + T) := by
    show nI 1 + nI T = _
    rw [nI_add]
  refine ⟨T, by omega, by omega, ?_, fun M => ?_⟩
  · rw [p]
    by_cases c : d ≤ 1
    · have e : T = 1 := by omega
      have l : ¬ (1 : Int32) < nI d := nI_nlt (a := 1) c (by decide)
      rw [if_neg l, e]
      rfl
    · have e : d = T := by omega
      have l : (1 : Int32) < nI d := nI_lt (a := 1) (by omega) (by omega)
      rw [if_pos l, e]
      exact t1
  · have q := tw_loop M hX hd h0 h1 hT 15 1 16 1 rfl (by omega) (by omega) (by omega)
    unfold m_multiply_b116 o_m_multiply_b116 m_multiply_b122t o_m_multiply_b122t
    have q1 : m_multiply_b122 16 M (nI X) 1 2 = some (M, 1 + nI T) := q.1
    rw [q1, t1]
    exact ⟨rfl, q.2, _, rfl⟩
theorem t_sg2 : ∀ i, i < 32 → ∀ s y y31 z : Bool, (i != 31 || y == y31) = true → (if i = 30 then z else if i = 31 then y31 else s) = ((s && (bt (-1073741824) i ^^ true)) || (((y && bt (-2147483648) i) || (z && bt 1073741824 i)) && bt (-1073741824) i)) := by decide +kernel
theorem RI.sign2 {N : Nat} {w : Int32} {st mt : CS} (h : RI N w st mt) (y : Int32) : RI N w (cRegisters_setResultSigns st y) (sI mt 1 (stb (stb (gI mt 1) 31 (bt y 31)) 30 (decide (y = 0)))) := by
  have e1 : cRegisters_setResultSigns st y = cRegisters_change st (-1073741824) ((y &&& -2147483648) ||| (bif decide (y = 0) then 1073741824 else 0)) := by
    unfold cRegisters_setResultSigns cRegisters_setResultSigns_b17
    by_cases c : y = 0
    · rw [if_pos c, decide_eq_true c]; rfl
    · rw [if_neg c, decide_eq_false c]; rfl
  rw [e1]
  refine h.chg _ _ (by decide) ?_
  refine b_ext fun i hi => ?_
  have f : ∀ (b : Bool) (x : Int32), bt (bif b then x else 0) i = (b && bt x i) := fun b x => by
    cases b
    · exact b_0 i
    · rfl
  rw [b_stb _ 30 _ (by decide) hi, b_stb _ 31 _ (by decide) hi]
  simp only [b_and, b_or, b_xor, b_m1 i hi, f]
  refine t_sg2 i hi _ _ _ _ ?_
  by_cases c : i = 31
  · subst c; simp
  · simp [c]
theorem set2 (M : CS) (u v : Int32) : m_set (m_set M 31 u) 30 v = sI M 1 (stb (stb (gI M 1) 31 (decide (¬ u = 0))) 30 (decide (¬ v = 0))) := by
  have a := set_is M 31 u
  have b := set_is (m_set M 31 u) 30 v
  have a' : m_set M 31 u = sI M 1 (stb (gI M 1) 31 (decide (¬ u = 0))) := a
  have b' : m_set (m_set M 31 u) 30 v = sI (m_set M 31 u) 1 (stb (gI (m_set M 31 u) 1) 30 (decide (¬ v = 0))) := b
  rw [b', a', sI_sI]
  rfl
theorem mul_76 {N : Nat} {w : Int32} {mt S M : CS} (h : RI N w S M) (h0 : gI M 0 = gI mt 0) (hB : gB M 0 = gB mt 0) (x y : Int32) : o_m_multiply_b76 M w x y ∧ Dn N mt (cProcessor_multiply_b70 S x y) (m_multiply_b76 M w x y) := by
  have z : ¬ (1 : Int32) = 0 := by decide
  have hw : gI S 32 = w := h.2.2.2.2
  obtain ⟨T, T1, T2, T3, T4⟩ := mul_t x
  have OB := fun M => (T4 M).2
  have C : ∀ S, cProcessor_multiply_b87 S x = (S, nI (1 + T)) := fun S => by
    unfold cProcessor_multiply_b87
    rw [T3]
  refine ⟨?_, ?_⟩
  · unfold o_m_multiply_b76 o_m_multiply_b98 o_m_multiply_b101 o_m_multiply_b113
    exact ⟨fun _ => ⟨fun _ => ⟨fun _ => OB _, fun _ => OB _⟩, fun _ => ⟨fun _ => OB _, fun _ => OB _⟩⟩, fun _ => OB _⟩
  · unfold cProcessor_multiply_b70
    rw [is_w hw 1048576 20 (by decide) (by decide), C, C]
    cases b20 : bt w 20
    · have n : ¬ (w >>> ((20 : Int32) &&& 31)) &&& 1 = 1 := ref_0 (k := 20) (by decide) b20
      unfold m_multiply_b76
      rw [if_neg n, (T4 M).1]
      show Dn N mt (if (0 : Int32) = 0 then _ else _) _
      rw [if_pos rfl]
      exact Dn.of h h0 hB (t := 1 + T) (by omega) (by omega)
    · have n : (w >>> ((20 : Int32) &&& 31)) &&& 1 = 1 := ref_1 (k := 20) (by decide) b20
      have R : m_multiply_b76 M w x y = m_multiply_b116 (sI M 1 (stb (stb (gI M 1) 31 (bt y 31)) 30 (decide (y = 0)))) x := by
        unfold m_multiply_b76 m_multiply_b98 m_multiply_b101 m_multiply_b113
        rw [if_pos n]
        by_cases c : 0 ≤ y
        · rw [if_pos c, (pos_b y).mp c]
          by_cases d : y = 0
          · rw [if_pos d, set2, decide_eq_true d]; rfl
          · rw [if_neg d, set2, decide_eq_false d]; rfl
        · have q : bt y 31 = true := by
            cases q : bt y 31
            · exact absurd ((pos_b y).mpr q) c
            · rfl
          rw [if_neg c, q]
          by_cases d : y = 0
          · rw [if_pos d, set2, decide_eq_true d]; rfl
          · rw [if_neg d, set2, decide_eq_false d]; rfl
      rw [R, (T4 _).1]
      show Dn N mt (if (1 : Int32) = 0 then _ else _) _
      rw [if_neg z]
      exact Dn.of (h.sign2 y) h0 hB (t := 1 + T) (by omega) (by omega)
theorem mul_eq {N : Nat} {w : Int32} {st mt : CS} (h : RI N w st mt) : o_m_multiply mt w ∧ Dn N mt (cProcessor_multiply st) (m_multiply mt w) := by
  have z : ¬ (1 : Int32) = 0 := by decide
  have hw : gI st 32 = w := h.2.2.2.2
  obtain ⟨jn, hjn, en⟩ := rng_and (ushr w 16) (m := 15) 4 rfl
  have en' : (w >>> ((16 : Int32) &&& 31)) &&& 15 = nI jn := by rw [f_16]; exact en
  obtain ⟨jd, hjd, ed⟩ := rng_and (ushr w 12) (m := 15) 4 rfl
  have ed' : (w >>> ((12 : Int32) &&& 31)) &&& 15 = nI jd := by rw [f_12]; exact ed
  obtain ⟨js, hjs, es⟩ := rng_and (ushr w 8) (m := 15) 4 rfl
  have es' : (w >>> ((8 : Int32) &&& 31)) &&& 15 = nI js := by rw [f_8]; exact es
  obtain ⟨jm, hjm, em⟩ := rng_and w (m := 15) 4 rfl
  have pn : cProcessor_part st 16 = nI jn := by unfold cProcessor_part; rw [hw]; exact en
  have pd : cProcessor_part st 12 = nI jd := by unfold cProcessor_part; rw [hw]; exact ed
  have ps : cProcessor_part st 8 = nI js := by unfold cProcessor_part; rw [hw]; exact es
  have pm : cProcessor_part st 0 = nI jm := by unfold cProcessor_part; rw [hw, ush_0]; exact em
  obtain ⟨d1, d2⟩ := op_eq h.1 h.sg h.2.2.2.1 hjd
  obtain ⟨s1, s2⟩ := op_eq h.1 h.sg h.2.2.2.1 hjs
  obtain ⟨m1, m2⟩ := op_eq h.1 h.sg h.2.2.2.1 hjm
  have G : ∀ x y1 y0, o_m_multiply_b47 mt w x y1 y0 ∧ Dn N mt (cProcessor_multiply_b58 st (nI jn) x (y1 + y0)) (m_multiply_b47 mt w x y1 y0) := by
    intro x y1 y0
    unfold o_m_multiply_b47 m_multiply_b47 cProcessor_multiply_b58
    rw [en']
    by_cases c15 : jn = 15
    · subst c15
      have l15 : (15 : Int32) ≤ nI 15 := by decide
      have k15 : nI 15 = 15 := rfl
      rw [if_pos k15, if_pos l15]
      obtain ⟨a, b⟩ := mul_76 (mt := mt) h rfl rfl x (y1 + y0)
      exact ⟨⟨fun _ => a, fun q => absurd l15 q⟩, b⟩
    · have l15 : ¬ (15 : Int32) ≤ nI jn := nI_ge (b := 15) (by omega) (by decide)
      have k15 : ¬ nI jn = 15 := nI_n15 (by omega)
      obtain ⟨mo, hmo, eo⟩ := mode_N mt
      obtain ⟨g1, g2, g3, g4, g5⟩ := h.give hmo (j := jn) (by omega) (y1 + y0)
      have e : cProcessor_become st (nI jn) (y1 + y0) = cRegisters_become st (nI mo) (nI jn) (y1 + y0) := by
        unfold cProcessor_become
        rw [sg_mode h.sg, eo]
      rw [if_neg k15, if_neg l15, eo, e]
      obtain ⟨a, b⟩ := mul_76 (mt := mt) g2 (by rw [g3]) (by rw [g4]) x (y1 + y0)
      exact ⟨⟨fun q => absurd q l15, fun _ => ⟨g1, a⟩⟩, b⟩
  unfold o_m_multiply m_multiply cProcessor_multiply
  rw [pn, pd, ps, pm, s1, m1, d1, es', em, ed', is_w hw 2097152 21 (by decide) (by decide)]
  cases b21 : bt w 21
  · have n : ¬ (w >>> ((21 : Int32) &&& 31)) &&& 1 = 1 := ref_0 (k := 21) (by decide) b21
    have A := G (m_operand mt (nI js)) (m_operand mt (nI jm) * m_operand mt (nI js)) 0
    rw [Int32.add_zero] at A
    rw [if_neg n]
    refine ⟨⟨s2, m2, fun q => absurd q n, fun _ => A.1⟩, ?_⟩
    show Dn N mt (if (0 : Int32) = 0 then _ else _) _
    rw [if_pos rfl]
    exact A.2
  · have n : (w >>> ((21 : Int32) &&& 31)) &&& 1 = 1 := ref_1 (k := 21) (by decide) b21
    have A := G (m_operand mt (nI js)) (m_operand mt (nI jm) * m_operand mt (nI js)) (m_operand mt (nI jd))
    rw [if_pos n]
    refine ⟨⟨s2, m2, fun _ => ⟨d2, A.1⟩, fun q => absurd n q⟩, ?_⟩
    show Dn N mt (if (1 : Int32) = 0 then _ else _) _
    rw [if_neg z]
    exact A.2
theorem br_20 {N : Nat} {w : Int32} {mt S M : CS} (h : RI N w S M) (h0 : gI M 0 = gI mt 0) (hB : gB M 0 = gB mt 0) : Dn N mt (cProcessor_branch_b20 S) (m_branch_b33 M w) := by
  have hw : gI S 32 = w := h.2.2.2.2
  unfold cProcessor_branch_b20 m_branch_b33
  rw [hw]
  have e : m_ahead M ((8 : Int32) + ((w <<< ((8 : Int32) &&& 31)) >>> ((6 : Int32) &&& 31))) = ((gI S 31 + 8) + ((w <<< ((8 : Int32) &&& 31)) >>> ((6 : Int32) &&& 31))) &&& 67108860 := by
    unfold m_ahead
    rw [h.2.2.2.1, Int32.add_assoc]
  rw [e]
  exact Dn.of (h.goTo _) h0 hB (t := 4) (by omega) (by omega)
theorem branch_eq {N : Nat} {w : Int32} {st mt : CS} (h : RI N w st mt) : o_m_branch mt w ∧ Dn N mt (cProcessor_branch st) (m_branch mt w) := by
  have z : ¬ (1 : Int32) = 0 := by decide
  have hw : gI st 32 = w := h.2.2.2.2
  unfold cProcessor_branch m_branch o_m_branch
  rw [is_w hw 16777216 24 (by decide) (by decide)]
  cases b24 : bt w 24
  · have n : ¬ (w >>> ((24 : Int32) &&& 31)) &&& 1 = 1 := ref_0 (k := 24) (by decide) b24
    rw [if_neg n]
    refine ⟨⟨fun q => absurd q n, fun _ => trivial⟩, ?_⟩
    show Dn N mt (if (0 : Int32) = 0 then _ else _) _
    rw [if_pos rfl]
    exact br_20 h rfl rfl
  · have n : (w >>> ((24 : Int32) &&& 31)) &&& 1 = 1 := ref_1 (k := 24) (by decide) b24
    obtain ⟨mo, hmo, eo⟩ := mode_N mt
    obtain ⟨g1, g2, g3, g4, g5⟩ := h.give hmo (j := 14) (by decide) ((gI mt 1 &&& -67108861) ||| m_ahead mt 4)
    have e : cProcessor_become st 14 (cProcessor_withSigns st 4) = cRegisters_become st (nI mo) (nI 14) ((gI mt 1 &&& -67108861) ||| m_ahead mt 4) := by
      unfold cProcessor_become
      rw [sg_mode h.sg, eo, wsigns_eq h.sg h.2.2.2.1]
      rfl
    rw [if_pos n, eo, e]
    refine ⟨⟨fun _ => ⟨g1, trivial⟩, fun q => absurd n q⟩, ?_⟩
    show Dn N mt (if (1 : Int32) = 0 then _ else _) _
    rw [if_neg z]
    exact br_20 g2 (congrFun g3 0) (congrFun g4 0)
