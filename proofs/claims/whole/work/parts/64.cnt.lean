/-! PURE 24: counting a list of registers -/
def cntB (w : Int32) : Nat → Nat
  | 0 => 0
  | k + 1 => cntB w k + (bif bt w k then 1 else 0)
theorem cntB_s (w : Int32) (k : Nat) : cntB w (k + 1) = cntB w k + (bif bt w k then 1 else 0) := rfl
theorem cntB_le (w : Int32) : ∀ k, cntB w k ≤ k := by
  intro k
  induction k with
  | zero => exact Nat.le_refl 0
  | succ k ih => rw [cntB_s]; cases bt w k <;> simp only [cond_true, cond_false] <;> omega
theorem cntB_mono (w : Int32) (a : Nat) : ∀ b, a ≤ b → cntB w a ≤ cntB w b := by
  intro b
  induction b with
  | zero => intro h; rw [show a = 0 by omega]; exact Nat.le_refl _
  | succ b ih =>
    intro h
    by_cases c : a = b + 1
    · rw [c]; exact Nat.le_refl _
    · have := ih (by omega)
      rw [cntB_s]
      omega
def cntN (m : Nat) : Nat → Nat
  | 0 => 0
  | k + 1 => cntN m k + (bif m.testBit k then 1 else 0)
def bc1 (m : Nat) : Nat := m - (m / 2 ^ 1 &&& 1431655765)
def bc2 (v : Nat) : Nat := (v &&& 858993459) + (v / 2 ^ 2 &&& 858993459)
def bc3 (v : Nat) : Nat := (v + v / 2 ^ 4) &&& 252645135
def bc4 (v : Nat) : Nat := v + v / 2 ^ 8
def bc5 (v : Nat) : Nat := (v + v / 2 ^ 16) &&& 63
theorem nI_and (a b : Nat) : nI a &&& nI b = nI (a &&& b) := b_ext fun i hi => by rw [b_and, b_nI a hi, b_nI b hi, b_nI _ hi, Nat.testBit_and]
theorem bit_count {m : Nat} (hm : m < 65536) : cInteger_bitCount (nI m) = nI (bc5 (bc4 (bc3 (bc2 (bc1 m))))) := by
  have b1 : bc1 m ≤ m := Nat.sub_le _ _
  have b2 : bc2 (bc1 m) ≤ 2 * m := by
    have h1 : bc1 m &&& 858993459 ≤ bc1 m := Nat.and_le_left
    have h2 : bc1 m / 2 ^ 2 &&& 858993459 ≤ bc1 m / 2 ^ 2 := Nat.and_le_left
    unfold bc2
    omega
  have b3 : bc3 (bc2 (bc1 m)) ≤ 4 * m := by
    have h1 : (bc2 (bc1 m) + bc2 (bc1 m) / 2 ^ 4) &&& 252645135 ≤ bc2 (bc1 m) + bc2 (bc1 m) / 2 ^ 4 := Nat.and_le_left
    unfold bc3
    omega
  have b4 : bc4 (bc3 (bc2 (bc1 m))) ≤ 8 * m := by
    unfold bc4
    omega
  have s1 : nI m - ((ushr (nI m) 1) &&& 1431655765) = nI (bc1 m) := by
    rw [show ushr (nI m) 1 = nI (m / 2 ^ 1) from pk_ushrN (by omega) 1 1 (by decide), show (1431655765 : Int32) = nI 1431655765 from rfl, nI_and]
    refine pk_sub ?_
    have h : m / 2 ^ 1 &&& 1431655765 ≤ m / 2 ^ 1 := Nat.and_le_left
    omega
  have s2 : (nI (bc1 m) &&& 858993459) + ((ushr (nI (bc1 m)) 2) &&& 858993459) = nI (bc2 (bc1 m)) := by
    rw [show ushr (nI (bc1 m)) 2 = nI (bc1 m / 2 ^ 2) from pk_ushrN (by omega) 2 2 (by decide), show (858993459 : Int32) = nI 858993459 from rfl, nI_and, nI_and, nI_add]
    rfl
  have s3 : (nI (bc2 (bc1 m)) + ushr (nI (bc2 (bc1 m))) 4) &&& 252645135 = nI (bc3 (bc2 (bc1 m))) := by
    rw [show ushr (nI (bc2 (bc1 m))) 4 = nI (bc2 (bc1 m) / 2 ^ 4) from pk_ushrN (by omega) 4 4 (by decide), show (252645135 : Int32) = nI 252645135 from rfl, nI_add, nI_and]
    rfl
  have s4 : nI (bc3 (bc2 (bc1 m))) + ushr (nI (bc3 (bc2 (bc1 m)))) 8 = nI (bc4 (bc3 (bc2 (bc1 m)))) := by
    rw [show ushr (nI (bc3 (bc2 (bc1 m)))) 8 = nI (bc3 (bc2 (bc1 m)) / 2 ^ 8) from pk_ushrN (by omega) 8 8 (by decide), nI_add]
    rfl
  have s5 : (nI (bc4 (bc3 (bc2 (bc1 m)))) + ushr (nI (bc4 (bc3 (bc2 (bc1 m))))) 16) &&& 63 = nI (bc5 (bc4 (bc3 (bc2 (bc1 m))))) := by
    rw [show ushr (nI (bc4 (bc3 (bc2 (bc1 m))))) 16 = nI (bc4 (bc3 (bc2 (bc1 m))) / 2 ^ 16) from pk_ushrN (by omega) 16 16 (by decide), show (63 : Int32) = nI 63 from rfl, nI_add, nI_and]
    rfl
  unfold cInteger_bitCount
  rw [s1, s2, s3, s4, s5]
theorem spl {a b : Nat} (ha : a < 256) (hb : b < 256) (k M : Nat) (hM : ∀ i, i < 8 → 8 ≤ i + k → M.testBit i = false) (hP : ∀ i, i < 8 → M.testBit (8 + i) = M.testBit i) : (256 * a + b) / 2 ^ k &&& M = 256 * (a / 2 ^ k &&& M) + (b / 2 ^ k &&& M) := by
  have hy : (b / 2 ^ k &&& M) < 2 ^ 8 := Nat.lt_of_le_of_lt Nat.and_le_left (Nat.lt_of_le_of_lt (Nat.div_le_self _ _) hb)
  have hb' : b < 2 ^ 8 := hb
  apply Nat.eq_of_testBit_eq
  intro i
  have e1 : ((256 * a + b) / 2 ^ k &&& M).testBit i = ((if i + k < 8 then b.testBit (i + k) else a.testBit (i + k - 8)) && M.testBit i) := by
    rw [Nat.testBit_and, Nat.testBit_div_two_pow]
    have e := Nat.testBit_two_pow_mul_add a hb' (i + k)
    rw [show 256 * a + b = 2 ^ 8 * a + b from rfl, e]
  have e2 : (256 * (a / 2 ^ k &&& M) + (b / 2 ^ k &&& M)).testBit i = (if i < 8 then (b.testBit (i + k) && M.testBit i) else (a.testBit (i - 8 + k) && M.testBit (i - 8))) := by
    have e := Nat.testBit_two_pow_mul_add (a / 2 ^ k &&& M) hy i
    rw [show 256 * (a / 2 ^ k &&& M) + (b / 2 ^ k &&& M) = 2 ^ 8 * (a / 2 ^ k &&& M) + (b / 2 ^ k &&& M) from rfl, e, Nat.testBit_and, Nat.testBit_and, Nat.testBit_div_two_pow, Nat.testBit_div_two_pow]
  rw [e1, e2]
  by_cases c : i < 8
  · rw [if_pos c]
    by_cases d : i + k < 8
    · rw [if_pos d]
    · rw [if_neg d, hM i c (by omega), Bool.and_false, Bool.and_false]
  · rw [if_neg c, if_neg (by omega), show i + k - 8 = i - 8 + k by omega]
    by_cases d : i < 16
    · have q := hP (i - 8) (by omega)
      rw [show 8 + (i - 8) = i by omega] at q
      rw [q]
    · have q : a.testBit (i - 8 + k) = false := Nat.testBit_lt_two_pow (Nat.lt_of_lt_of_le (show a < 2 ^ 8 from ha) (Nat.pow_le_pow_right (by decide) (by omega)))
      rw [q, Bool.false_and, Bool.false_and]
theorem bc1_s {a b : Nat} (ha : a < 256) (hb : b < 256) : bc1 (256 * a + b) = 256 * bc1 a + bc1 b := by
  unfold bc1
  rw [spl ha hb 1 1431655765 (by decide) (by decide)]
  have h1 : (a / 2 ^ 1 &&& 1431655765) ≤ a / 2 ^ 1 := Nat.and_le_left
  have h2 : (b / 2 ^ 1 &&& 1431655765) ≤ b / 2 ^ 1 := Nat.and_le_left
  omega
theorem bc2_s {a b : Nat} (ha : a < 256) (hb : b < 256) : bc2 (256 * a + b) = 256 * bc2 a + bc2 b := by
  have h0 := spl ha hb 0 858993459 (by decide) (by decide)
  rw [Nat.pow_zero, Nat.div_one, Nat.div_one, Nat.div_one] at h0
  unfold bc2
  rw [h0, spl ha hb 2 858993459 (by decide) (by decide)]
  omega
theorem bcA : ∀ a, a < 256 → bc2 (bc1 a) / 16 < 5 ∧ bc2 (bc1 a) % 16 < 5 ∧ bc2 (bc1 a) / 16 + bc2 (bc1 a) % 16 = cntN a 8 := by decide +kernel
theorem bcB : ∀ p, p < 5 → ∀ q, q < 5 → ∀ r, r < 5 → ∀ s, s < 5 → bc5 (bc4 (bc3 (256 * (16 * p + q) + (16 * r + s)))) = (p + q) + (r + s) := by decide +kernel
theorem cntN_lo {a b : Nat} (hb : b < 256) : ∀ k, k ≤ 8 → cntN (256 * a + b) k = cntN b k := by
  intro k
  induction k with
  | zero => intro _; rfl
  | succ k ih =>
    intro hk
    have e := Nat.testBit_two_pow_mul_add a (show b < 2 ^ 8 from hb) k
    rw [if_pos (by omega)] at e
    have e' : (256 * a + b).testBit k = b.testBit k := e
    show cntN (256 * a + b) k + (bif (256 * a + b).testBit k then 1 else 0) = cntN b k + (bif b.testBit k then 1 else 0)
    rw [ih (by omega), e']
theorem cntN_hi {a b : Nat} (hb : b < 256) : ∀ k, cntN (256 * a + b) (8 + k) = cntN b 8 + cntN a k := by
  intro k
  induction k with
  | zero => exact cntN_lo hb 8 (Nat.le_refl _)
  | succ k ih =>
    have e := Nat.testBit_two_pow_mul_add a (show b < 2 ^ 8 from hb) (8 + k)
    rw [if_neg (by omega), show 8 + k - 8 = k by omega] at e
    have e' : (256 * a + b).testBit (8 + k) = a.testBit k := e
    show cntN (256 * a + b) (8 + k) + (bif (256 * a + b).testBit (8 + k) then 1 else 0) = cntN b 8 + (cntN a k + (bif a.testBit k then 1 else 0))
    rw [ih, e', Nat.add_assoc]
theorem bcAll : ∀ a, a < 256 → ∀ b, b < 256 → bc5 (bc4 (bc3 (bc2 (bc1 (256 * a + b))))) = cntN (256 * a + b) 16 := by
  intro a ha b hb
  have l1 : bc1 a < 256 := Nat.lt_of_le_of_lt (Nat.sub_le _ _) ha
  have l2 : bc1 b < 256 := Nat.lt_of_le_of_lt (Nat.sub_le _ _) hb
  obtain ⟨a1, a2, a3⟩ := bcA a ha
  obtain ⟨b1, b2, b3⟩ := bcA b hb
  have h := bcB _ a1 _ a2 _ b1 _ b2
  rw [Nat.div_add_mod, Nat.div_add_mod, a3, b3] at h
  rw [bc1_s ha hb, bc2_s l1 l2, h, show (16 : Nat) = 8 + 8 from rfl, cntN_hi hb 8, Nat.add_comm]
theorem t65535 : ∀ i, i < 16 → bt 65535 i = true := by decide +kernel
theorem cntB_N {w : Int32} {m : Nat} (h : w &&& 65535 = nI m) : ∀ k, k ≤ 16 → cntB w k = cntN m k := by
  intro k
  induction k with
  | zero => intro _; rfl
  | succ k ih =>
    intro hk
    have e : bt w k = m.testBit k := by
      rw [← b_nI m (show k < 32 by omega), ← h, b_and, t65535 k (by omega), Bool.and_true]
    rw [cntB_s, ih (by omega), e]
    rfl
theorem bc_eq (w : Int32) : cInteger_bitCount (w &&& 65535) = nI (cntB w 16) := by
  obtain ⟨m, hm, e⟩ := rng_and w (m := 65535) 16 rfl
  have hm' : m < 65536 := hm
  have h := bcAll (m / 256) (by omega) (m % 256) (by omega)
  rw [show 256 * (m / 256) + m % 256 = m by omega] at h
  rw [cntB_N e 16 (Nat.le_refl _), e, bit_count hm', h]
/-- the lowest register of a list, from i on -/
def Lw (w : Int32) (i : Nat) (x : Int32) : Prop := ((∀ j, i ≤ j → j < 16 → bt w j = false) ∧ x = -1) ∨ (∃ l, i ≤ l ∧ l < 16 ∧ bt w l = true ∧ (∀ j, i ≤ j → j < l → bt w j = false) ∧ x = nI l)
def eM (mt : CS) (w l : Int32) : CS × Int32 := if cntB w 16 = 0 then (mt, 1) else m_many_b58 mt w (nI (cntB w 16)) l (bif bt w 24 then 1 else 0)
def eO (mt : CS) (w l : Int32) : Prop := ¬ cntB w 16 = 0 → o_m_many_b58 mt w (nI (cntB w 16)) l (bif bt w 24 then 1 else 0)
theorem cnt_loop (mt : CS) (w : Int32) : ∀ i, i ≤ 16 → ∀ x3, Lw w i x3 → ∃ l, Lw w 0 l ∧ m_many_b8 (i + 1) mt w (nI (cntB w 16 - cntB w i)) x3 (nI i + -1) = some (eM mt w l) ∧ (eO mt w l → o_m_many_b8 (i + 1) mt w (nI (cntB w 16 - cntB w i)) x3 (nI i + -1)) := by
  intro i
  induction i with
  | zero =>
    intro _ x3 hx
    refine ⟨x3, hx, ?_⟩
    have n : nI 0 + (-1 : Int32) < 0 := by decide
    have e0 : cntB w 16 - cntB w 0 = cntB w 16 := Nat.sub_zero _
    unfold m_many_b8 o_m_many_b8 eM eO
    rw [if_pos n, e0]
    by_cases c : cntB w 16 = 0
    · have c' : nI (cntB w 16) = 0 := by rw [c]; rfl
      rw [if_pos c', if_pos c]
      exact ⟨rfl, fun _ => ⟨fun _ => ⟨fun _ => trivial, fun q => absurd c' q⟩, fun q => absurd n q⟩⟩
    · have c' : ¬ nI (cntB w 16) = 0 := nI_ne0 (by omega) (by have := cntB_le w 16; omega)
      rw [if_neg c', if_neg c]
      cases b24 : bt w 24
      · have n24 : ¬ (w >>> ((24 : Int32) &&& 31)) &&& 1 = 1 := ref_0 (k := 24) (by decide) b24
        rw [if_neg n24]
        exact ⟨rfl, fun o => ⟨fun _ => ⟨fun q => absurd q c', fun _ => ⟨fun q => absurd q n24, fun _ => o c⟩⟩, fun q => absurd n q⟩⟩
      · have n24 : (w >>> ((24 : Int32) &&& 31)) &&& 1 = 1 := ref_1 (k := 24) (by decide) b24
        rw [if_pos n24]
        exact ⟨rfl, fun o => ⟨fun _ => ⟨fun q => absurd q c', fun _ => ⟨fun _ => o c, fun q => absurd n24 q⟩⟩, fun q => absurd n q⟩⟩
  | succ i ih =>
    intro hi x3 hx
    have e4 : nI (i + 1) + (-1 : Int32) = nI i := by
      rw [nI_succ, Int32.add_assoc]
      show nI i + 0 = nI i
      exact Int32.add_zero _
    have n : ¬ nI i < 0 := nI_pos (by omega)
    have hm := cntB_mono w (i + 1) 16 hi
    have hs := cntB_s w i
    rw [e4]
    unfold m_many_b8 o_m_many_b8 m_many_b31 o_m_many_b31
    rw [if_neg n]
    cases bi : bt w i
    · have z : (w >>> (nI i &&& 31)) &&& 1 = 0 := (bit1_0 w i (by omega)).mpr bi
      rw [bi] at hs
      have hs' : cntB w (i + 1) = cntB w i := hs
      have hL : Lw w i x3 := by
        rcases hx with ⟨h1, h2⟩ | ⟨l, h1, h2, h3, h4, h5⟩
        · refine Or.inl ⟨fun j hj1 hj2 => ?_, h2⟩
          by_cases q : j = i
          · rw [q]; exact bi
          · exact h1 j (by omega) hj2
        · refine Or.inr ⟨l, by omega, h2, h3, fun j hj1 hj2 => ?_, h5⟩
          by_cases q : j = i
          · rw [q]; exact bi
          · exact h4 j (by omega) hj2
      obtain ⟨l, r1, r2, r3⟩ := ih (by omega) x3 hL
      rw [if_pos z, hs']
      exact ⟨l, r1, r2, fun o => ⟨fun q => absurd q n, fun _ => ⟨fun _ => r3 o, fun q => absurd z q⟩⟩⟩
    · have z : ¬ (w >>> (nI i &&& 31)) &&& 1 = 0 := fun q => by rw [(bit1_0 w i (by omega)).mp q] at bi; exact absurd bi (by decide)
      rw [bi] at hs
      have hs' : cntB w (i + 1) = cntB w i + 1 := hs
      have hL : Lw w i (nI i) := Or.inr ⟨i, Nat.le_refl _, by omega, bi, fun j h1 h2 => by omega, rfl⟩
      obtain ⟨l, r1, r2, r3⟩ := ih (by omega) (nI i) hL
      have e2 : nI (cntB w 16 - cntB w (i + 1)) + 1 = nI (cntB w 16 - cntB w i) := by
        rw [nI_1, show cntB w 16 - cntB w (i + 1) + 1 = cntB w 16 - cntB w i by omega]
      rw [if_neg z, e2]
      exact ⟨l, r1, r2, fun o => ⟨fun q => absurd q n, fun _ => ⟨fun q => absurd q z, fun _ => r3 o⟩⟩⟩
theorem cnt_eq (mt : CS) (w : Int32) : ∃ l, Lw w 0 l ∧ m_many mt w = eM mt w l ∧ (eO mt w l → o_m_many mt w) := by
  obtain ⟨l, r1, r2, r3⟩ := cnt_loop mt w 16 (Nat.le_refl _) (-1) (Or.inl ⟨fun j h1 h2 => by omega, rfl⟩)
  have e : nI (cntB w 16 - cntB w 16) = 0 := by rw [Nat.sub_self]; rfl
  rw [e] at r2 r3
  refine ⟨l, r1, ?_, fun o => ⟨r3 o, _, r2⟩⟩
  show (m_many_b8 17 mt w 0 (-1) (nI 16 + -1)).getD (mt, 0) = _
  rw [r2]
  rfl
/-- the settings of the list, bit by bit -/
theorem b58_is (mt : CS) (w c l p : Int32) : m_many_b58 mt w c l p = m_many_b143 mt w c l p (bif bt w 23 then 1 else 0) (bif bt w 22 then 1 else 0) (bif bt w 21 then 1 else 0) (bif bt w 20 then 1 else 0) (bif bt w 15 then 1 else 0) ∧ (o_m_many_b143 mt w c l p (bif bt w 23 then 1 else 0) (bif bt w 22 then 1 else 0) (bif bt w 21 then 1 else 0) (bif bt w 20 then 1 else 0) (bif bt w 15 then 1 else 0) → o_m_many_b58 mt w c l p) := by
  have h15 : ∀ x5 x6 x7 x8, m_many_b126 mt w c l p x5 x6 x7 x8 = m_many_b143 mt w c l p x5 x6 x7 x8 (bif bt w 15 then 1 else 0) ∧ (o_m_many_b143 mt w c l p x5 x6 x7 x8 (bif bt w 15 then 1 else 0) → o_m_many_b126 mt w c l p x5 x6 x7 x8) := by
    intro x5 x6 x7 x8
    unfold m_many_b126 o_m_many_b126
    cases q : bt w 15
    · have n : ¬ (w >>> ((15 : Int32) &&& 31)) &&& 1 = 1 := ref_0 (k := 15) (by decide) q
      exact ⟨if_neg n, fun o => ⟨fun y => absurd y n, fun _ => o⟩⟩
    · have n : (w >>> ((15 : Int32) &&& 31)) &&& 1 = 1 := ref_1 (k := 15) (by decide) q
      exact ⟨if_pos n, fun o => ⟨fun _ => o, fun y => absurd n y⟩⟩
  have h20 : ∀ x5 x6 x7, m_many_b109 mt w c l p x5 x6 x7 = m_many_b126 mt w c l p x5 x6 x7 (bif bt w 20 then 1 else 0) ∧ (o_m_many_b126 mt w c l p x5 x6 x7 (bif bt w 20 then 1 else 0) → o_m_many_b109 mt w c l p x5 x6 x7) := by
    intro x5 x6 x7
    unfold m_many_b109 o_m_many_b109
    cases q : bt w 20
    · have n : ¬ (w >>> ((20 : Int32) &&& 31)) &&& 1 = 1 := ref_0 (k := 20) (by decide) q
      exact ⟨if_neg n, fun o => ⟨fun y => absurd y n, fun _ => o⟩⟩
    · have n : (w >>> ((20 : Int32) &&& 31)) &&& 1 = 1 := ref_1 (k := 20) (by decide) q
      exact ⟨if_pos n, fun o => ⟨fun _ => o, fun y => absurd n y⟩⟩
  have h21 : ∀ x5 x6, m_many_b92 mt w c l p x5 x6 = m_many_b109 mt w c l p x5 x6 (bif bt w 21 then 1 else 0) ∧ (o_m_many_b109 mt w c l p x5 x6 (bif bt w 21 then 1 else 0) → o_m_many_b92 mt w c l p x5 x6) := by
    intro x5 x6
    unfold m_many_b92 o_m_many_b92
    cases q : bt w 21
    · have n : ¬ (w >>> ((21 : Int32) &&& 31)) &&& 1 = 1 := ref_0 (k := 21) (by decide) q
      exact ⟨if_neg n, fun o => ⟨fun y => absurd y n, fun _ => o⟩⟩
    · have n : (w >>> ((21 : Int32) &&& 31)) &&& 1 = 1 := ref_1 (k := 21) (by decide) q
      exact ⟨if_pos n, fun o => ⟨fun _ => o, fun y => absurd n y⟩⟩
  have h22 : ∀ x5, m_many_b75 mt w c l p x5 = m_many_b92 mt w c l p x5 (bif bt w 22 then 1 else 0) ∧ (o_m_many_b92 mt w c l p x5 (bif bt w 22 then 1 else 0) → o_m_many_b75 mt w c l p x5) := by
    intro x5
    unfold m_many_b75 o_m_many_b75
    cases q : bt w 22
    · have n : ¬ (w >>> ((22 : Int32) &&& 31)) &&& 1 = 1 := ref_0 (k := 22) (by decide) q
      exact ⟨if_neg n, fun o => ⟨fun y => absurd y n, fun _ => o⟩⟩
    · have n : (w >>> ((22 : Int32) &&& 31)) &&& 1 = 1 := ref_1 (k := 22) (by decide) q
      exact ⟨if_pos n, fun o => ⟨fun _ => o, fun y => absurd n y⟩⟩
  have h23 : m_many_b58 mt w c l p = m_many_b75 mt w c l p (bif bt w 23 then 1 else 0) ∧ (o_m_many_b75 mt w c l p (bif bt w 23 then 1 else 0) → o_m_many_b58 mt w c l p) := by
    unfold m_many_b58 o_m_many_b58
    cases q : bt w 23
    · have n : ¬ (w >>> ((23 : Int32) &&& 31)) &&& 1 = 1 := ref_0 (k := 23) (by decide) q
      exact ⟨if_neg n, fun o => ⟨fun y => absurd y n, fun _ => o⟩⟩
    · have n : (w >>> ((23 : Int32) &&& 31)) &&& 1 = 1 := ref_1 (k := 23) (by decide) q
      exact ⟨if_pos n, fun o => ⟨fun _ => o, fun y => absurd n y⟩⟩
  refine ⟨?_, fun o => h23.2 ((h22 _).2 ((h21 _ _).2 ((h20 _ _ _).2 ((h15 _ _ _ _).2 o))))⟩
  rw [h23.1, (h22 _).1, (h21 _ _).1, (h20 _ _ _).1, (h15 _ _ _ _).1]
/-- the address of word k -/
def adr (s k : Nat) : Nat := (4 * (s / 4) + 4 * k) % 67108864
theorem adr_lt (s k : Nat) : adr s k < 67108864 := Nat.mod_lt _ (by decide)
theorem and_pc (n : Nat) (h : n < 2 ^ 32) : nI n &&& 67108860 = nI (n % 67108864 / 4 * 4) := by
  refine b_ext fun i hi => ?_
  have e : ∀ j, j < 32 → bt 67108860 j = (decide (2 ≤ j) && decide (j < 26)) := by decide +kernel
  rw [b_and, e i hi, b_nI n hi, b_nI _ hi, show n % 67108864 / 4 * 4 = 2 ^ 2 * (n % 2 ^ 26 / 2 ^ 2) by omega, Nat.testBit_two_pow_mul]
  by_cases c : 2 ≤ i
  · rw [decide_eq_true c, Bool.true_and, Bool.true_and, Nat.testBit_div_two_pow, Nat.testBit_mod_two_pow, show i - 2 + 2 = i by omega, Bool.and_comm]
  · rw [decide_eq_false c, Bool.false_and, Bool.and_false, Bool.false_and]
theorem adr_0 {s : Nat} (hs : s < 67108864) : nI s &&& 67108860 = nI (adr s 0) := by
  rw [and_pc s (by omega), show s % 67108864 / 4 * 4 = adr s 0 by unfold adr; omega]
theorem adr_k {s k : Nat} (hs : s < 67108864) (hk : k < 64) : (nI s + 4 * nI k) &&& 67108860 = nI (adr s k) := by
  rw [show (4 : Int32) * nI k = nI (4 * k) from pk_mul 4 k, nI_add, and_pc _ (by omega), show (s + 4 * k) % 67108864 / 4 * 4 = adr s k by unfold adr; omega]
theorem adr_s (s k : Nat) : (nI (adr s k) + 4) &&& 67108860 = nI (adr s (k + 1)) := by
  have h := adr_lt s k
  rw [show (4 : Int32) = nI 4 from rfl, nI_add, and_pc _ (by omega), show (adr s k + 4) % 67108864 / 4 * 4 = adr s (k + 1) by unfold adr; omega]
