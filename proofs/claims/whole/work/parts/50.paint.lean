/-! PURE 10: the picture -/
theorem shl4 (x : Int32) : x <<< ((4 : Int32) &&& 31) = 16 * x := by
  apply Int32.toBitVec_inj.mp
  apply BitVec.eq_of_toNat_eq
  rw [pk_shl x ((4 : Int32) &&& 31) 4 (by decide), Int32.toBitVec_mul, BitVec.toNat_mul, show (16 : Int32).toBitVec.toNat = 16 from rfl, Nat.mul_comm]
def b1248 (b : Nat) : Prop := b = 1 ∨ b = 2 ∨ b = 4 ∨ b = 8
theorem mask_b {b : Nat} (hb : b1248 b) : ((1 : Int32) <<< (nI b &&& 31)) - 1 = nI (2 ^ b - 1) := by
  rcases hb with rfl | rfl | rfl | rfl <;> decide
/-- the value of a place, by its bits -/
def vBits (w : Int32) (q b : Nat) (v : Int32) : Prop := ∀ i, i < 32 → bt v i = (decide (i < b) && bt w (q + i))
theorem vBits.eq {w : Int32} {q b : Nat} {v v' : Int32} (h : vBits w q b v) (h' : vBits w q b v') : v = v' := b_ext fun i hi => by rw [h i hi, h' i hi]
theorem cv_bits (st : CS) {a x b : Nat} (ha : a < 65536) (hb : b1248 b) (hx : x + b ≤ 8) : vBits (gA st 0 (a / 4)) (8 * (a % 4) + x) b ((ushr (cScreen_byteAt st (nI a)) (nI x)) &&& (((1 : Int32) <<< (nI b &&& 31)) - 1)) := by
  intro i hi
  have hb1 : 1 ≤ b := by rcases hb with rfl | rfl | rfl | rfl <;> omega
  rw [mask_b hb, b_and, b_mask b hi, b_ushr x (by omega)]
  have e1 : ushr (nI a) 2 &&& 16383 = nI (a / 4) := by rw [show ushr (nI a) 2 = nI (a / 4) from pk_ushrN (by omega) 2 2 (by decide), nand 14 rfl (by omega) (by omega)]
  have e2 : (nI a &&& 3) <<< ((3 : Int32) &&& 31) = nI (8 * (a % 4)) := by rw [pk_andN (by omega) 2 rfl, pk_shlN _ 3 (by decide) (by omega), Nat.mul_comm]
  unfold cScreen_byteAt
  rw [e1, e2, nI_clamp (by omega), b_and]
  by_cases c : i < b
  · rw [b_ushr (8 * (a % 4)) (by omega), show (255 : Int32) = nI (2 ^ 8 - 1) from rfl, b_mask 8 (by omega)]
    simp [c, show x + i < 8 by omega, Nat.add_assoc]
  · simp [c]
/-- where the reference stands behind j bits of a place -/
def beh (mt : CS) (a : Nat) (L : Int32) : Int32 := if nI a = L then (16 * (gA mt 10 1)) &&& 65535 else (nI a + 1) &&& 65535
def pA (mt : CS) (a x : Nat) (L : Int32) (j : Nat) : Int32 := if x + j = 8 then beh mt a L else nI a
def pX (x j : Nat) : Int32 := if x + j = 8 then 0 else nI (x + j)
def pV (mt : CS) (v : Int32) : Int32 := if gI mt 7 = 0 then gI mt 5 else (gA mt 9 (v &&& 15).toNatClampNeg) ^^^ ((v / 16) * 256)
theorem inner (rec : CS → Int32 → Int32 → Int32 → Int32 → Option CS) (orec : CS → Int32 → Int32 → Int32 → Int32 → Prop) (S : CS) (L : Int32) {a x b x4 : Nat} (ha : a < 65536) (hb : b1248 b) (hx : x + b ≤ 8) (hd : (1 : Int32) <<< (gI S 6 &&& 31) = nI b) (h4 : x4 < 2048) (v : Int32) (hv : vBits (gA S 5 (a / 4)) (8 * (a % 4) + x) b v) :
    ∀ m j x5 n, j + m = b → n + j = 9 → vBits (gA S 5 (a / 4)) (8 * (a % 4) + x) j x5 →
      m_paint_b48 rec n S (pA S a x L j) L (pX x j) (nI x4) x5 (nI j) = rec (sA S 11 (upd (gA S 11) x4 (pV S v))) (pA S a x L b) L (pX x b) (nI (x4 + 1)) ∧
      (orec (sA S 11 (upd (gA S 11) x4 (pV S v))) (pA S a x L b) L (pX x b) (nI (x4 + 1)) → o_m_paint_b48 orec n S (pA S a x L j) L (pX x j) (nI x4) x5 (nI j)) := by
  have hb8 : 1 ≤ b ∧ b ≤ 8 := by rcases hb with rfl | rfl | rfl | rfl <;> omega
  intro m
  induction m with
  | zero =>
    intro j x5 n h1 h2 h5
    have hj : j = b := by omega
    subst hj
    obtain ⟨n, rfl⟩ : ∃ k, n = k + 1 := ⟨n - 1, by omega⟩
    have e5 : x5 = v := h5.eq hv
    subst e5
    have c : (1 : Int32) <<< (gI S 6 &&& 31) ≤ nI j := by rw [hd]; exact Int32.le_refl _
    have v4 : vp_in (nI x4) 2048 := vp_in_nI h4 (by decide)
    simp only [m_paint_b48, o_m_paint_b48, m_paint_b173, m_paint_b174, o_m_paint_b173, o_m_paint_b174]
    rw [if_pos c, nI_clamp (by omega), nI_1]
    unfold pV
    by_cases z : gI S 7 = 0
    · rw [if_pos z, if_pos z]
      exact ⟨rfl, fun o => ⟨fun _ => ⟨fun _ => ⟨v4, o⟩, fun q => absurd z q⟩, fun q => absurd c q⟩⟩
    · rw [if_neg z, if_neg z]
      exact ⟨rfl, fun o => ⟨fun _ => ⟨fun q => absurd q z, fun _ => ⟨v4, o⟩⟩, fun q => absurd c q⟩⟩
  | succ m ih =>
    intro j x5 n h1 h2 h5
    obtain ⟨n, rfl⟩ : ∃ k, n = k + 1 := ⟨n - 1, by omega⟩
    have hjb : j < b := by omega
    have c : ¬ (1 : Int32) <<< (gI S 6 &&& 31) ≤ nI j := by rw [hd]; exact nI_ge hjb (by omega)
    have eA : pA S a x L j = nI a := if_neg (by omega)
    have eX : pX x j = nI (x + j) := if_neg (by omega)
    have e1 : nI a >>> ((2 : Int32) &&& 31) = nI (a / 4) := pk_shrN (by omega) _ 2 (by decide)
    have e2 : (8 : Int32) * (nI a &&& 3) + nI (x + j) = nI (8 * (a % 4) + x + j) := by rw [pk_andN (by omega) 2 rfl, show (8 : Int32) = nI 8 from rfl, pk_mul, nI_add, Nat.add_assoc]
    have v1 : vp_in (nI (a / 4)) 16384 := vp_in_nI (by omega) (by decide)
    rw [eA, eX]
    simp only [m_paint_b48, o_m_paint_b48, m_paint_b126, m_paint_b127, o_m_paint_b126, o_m_paint_b127]
    rw [if_neg c, e1, e2, nI_clamp (by omega), nI_1, nI_1]
    have h5' : vBits (gA S 5 (a / 4)) (8 * (a % 4) + x) (j + 1) (x5 ||| (((ushr (gA S 5 (a / 4)) (nI (8 * (a % 4) + x + j))) &&& 1) <<< (nI j &&& 31))) := by
      intro i hi
      rw [b_or, h5 i hi, b_shl j (by omega) _ hi, b_and, b_ushr _ (by omega), show (1 : Int32) = nI (2 ^ 0) from rfl, b_pow 0 (by omega)]
      by_cases c1 : i < j
      · simp [c1, show i < j + 1 by omega, show ¬ j ≤ i by omega]
      · by_cases c2 : i = j
        · subst c2
          simp [Nat.add_assoc]
        · simp [c1, show ¬ i < j + 1 by omega, show j ≤ i by omega, show ¬ 0 = i - j by omega]
    obtain ⟨r1, r2⟩ := ih (j + 1) _ n (by omega) (by omega) h5'
    by_cases w : x + j + 1 = 8
    · have c8 : (8 : Int32) ≤ nI (x + j + 1) := by rw [w]; decide
      have eA' : pA S a x L (j + 1) = beh S a L := if_pos (by omega)
      have eX' : pX x (j + 1) = 0 := if_pos (by omega)
      rw [eA', eX'] at r1 r2
      unfold beh at r1 r2
      rw [if_pos c8]
      by_cases eL : nI a = L
      · rw [if_pos eL] at r1 r2
        rw [if_pos eL]
        exact ⟨r1, fun o => ⟨fun q => absurd q c, fun _ => ⟨v1, fun _ => ⟨fun _ => r2 o, fun q => absurd eL q⟩, fun q => absurd c8 q⟩⟩⟩
      · rw [if_neg eL] at r1 r2
        rw [if_neg eL]
        exact ⟨r1, fun o => ⟨fun q => absurd q c, fun _ => ⟨v1, fun _ => ⟨fun q => absurd q eL, fun _ => r2 o⟩, fun q => absurd c8 q⟩⟩⟩
    · have c8 : ¬ (8 : Int32) ≤ nI (x + j + 1) := nI_ge (b := 8) (by omega) (by decide)
      have eA' : pA S a x L (j + 1) = nI a := if_neg (by omega)
      have eX' : pX x (j + 1) = nI (x + j + 1) := by unfold pX; rw [if_neg (by omega), Nat.add_assoc]
      rw [eA', eX'] at r1 r2
      rw [if_neg c8]
      exact ⟨r1, fun o => ⟨fun q => absurd q c, fun _ => ⟨v1, fun q => absurd q c8, fun _ => r2 o⟩⟩⟩
theorem m65535 (y : Int32) : ∃ a, a < 65536 ∧ y &&& 65535 = nI a := by
  obtain ⟨a, h, e⟩ := rng_and y (m := 65535) 16 rfl
  exact ⟨a, h, e⟩
/-- the next place: bit x of byte a -> bit x' of byte a' -/
theorem next_pos (mt : CS) (L : Int32) {a x b : Nat} (ha : a < 65536) (hb : b1248 b) (hx : x + b ≤ 8) (hx2 : x % b = 0) : ∃ a' x', a' < 65536 ∧ x' + b ≤ 8 ∧ x' % b = 0 ∧ pA mt a x L b = nI a' ∧ pX x b = nI x' := by
  have hb8 : 1 ≤ b ∧ b ≤ 8 := by rcases hb with rfl | rfl | rfl | rfl <;> omega
  unfold pA pX
  by_cases c : x + b = 8
  · rw [if_pos c, if_pos c]
    unfold beh
    by_cases d : nI a = L
    · rw [if_pos d]
      obtain ⟨a', h', e⟩ := m65535 (16 * gA mt 10 1)
      exact ⟨a', 0, h', by omega, Nat.zero_mod _, e, rfl⟩
    · rw [if_neg d]
      obtain ⟨a', h', e⟩ := m65535 (nI a + 1)
      exact ⟨a', 0, h', by omega, Nat.zero_mod _, e, rfl⟩
  · rw [if_neg c, if_neg c]
    refine ⟨a, x + b, ha, ?_, ?_, rfl, rfl⟩
    · rcases hb with rfl | rfl | rfl | rfl <;> omega
    · rcases hb with rfl | rfl | rfl | rfl <;> omega
theorem ex_v (w : Int32) (q : Nat) {b : Nat} (hq : q < 32) (hb : b < 32) : ∃ v, vBits w q b v := by
  refine ⟨ushr w (nI q) &&& nI (2 ^ b - 1), fun i hi => ?_⟩
  rw [b_and, b_ushr q hq, b_mask b hi, Bool.and_comm]
theorem v_rng256 {w : Int32} {q b : Nat} {v : Int32} (hb : b1248 b) (h : vBits w q b v) : rng v 256 := by
  have hb8 : b ≤ 8 := by rcases hb with rfl | rfl | rfl | rfl <;> omega
  have e : v = v &&& 255 := b_ext fun i hi => by
    rw [b_and, h i hi, show (255 : Int32) = nI (2 ^ 8 - 1) from rfl, b_mask 8 hi]
    by_cases c : i < b
    · simp [c, show i < 8 by omega]
    · simp [c]
  rw [e]
  exact rng_and v 8 rfl
theorem v_eq {w : Int32} {q b : Nat} {v : Int32} (hb : b1248 b) (h : vBits w q b v) : (ushr v 4) <<< ((8 : Int32) &&& 31) = (v / 16) * 256 := by
  obtain ⟨k, hk, rfl⟩ := v_rng256 hb h
  rw [show ushr (nI k) 4 = nI (k / 16) from pk_ushrN (by omega) 4 4 (by decide), pk_shlN _ 8 (by decide) (by omega), show nI k / 16 = nI (k / 16) from pk_div (a := k) (d := 16) (by omega) (by omega) (by omega), show (256 : Int32) = nI 256 from rfl, pk_mul]
/-- with the video off -/
theorem paint_off (mt : CS) (L : Int32) {b : Nat} (hb : b1248 b) (hd : (1 : Int32) <<< (gI mt 6 &&& 31) = nI b) (h7 : gI mt 7 = 0) :
    ∀ n x4 a x g, x4 + n = 2049 → x4 ≤ 2048 → a < 65536 → x + b ≤ 8 → x % b = 0 → (∀ j, j < x4 → g j = gI mt 5) →
      ∃ g', m_paint_b34 n (sA mt 11 g) (nI a) L (nI x) (nI x4) = some (sL (sI (sA mt 11 g') 9 1) 4 (gL mt 4 + 1)) ∧ o_m_paint_b34 n (sA mt 11 g) (nI a) L (nI x) (nI x4) ∧ ∀ j, j < 2048 → g' j = gI mt 5 := by
  have hb8 : 1 ≤ b ∧ b ≤ 8 := by rcases hb with rfl | rfl | rfl | rfl <;> omega
  intro n
  induction n with
  | zero => intro x4 a x g h1 h2; omega
  | succ n ih =>
    intro x4 a x g h1 h2 ha hx hx2 hg
    simp only [m_paint_b34, o_m_paint_b34]
    rcases Nat.lt_or_ge x4 2048 with q | q
    · have c : ¬ (2048 : Int32) ≤ nI x4 := nI_ge (b := 2048) q (by decide)
      rw [if_neg c]
      obtain ⟨v, hv⟩ := ex_v (gA (sA mt 11 g) 5 (a / 4)) (8 * (a % 4) + x) (b := b) (by omega) (by omega)
      have hv0 : vBits (gA (sA mt 11 g) 5 (a / 4)) (8 * (a % 4) + x) 0 0 := fun i _ => by rw [b_0]; simp
      obtain ⟨r1, r2⟩ := inner (m_paint_b34 n) (o_m_paint_b34 n) (sA mt 11 g) L ha hb hx hd q v hv b 0 0 9 (by omega) rfl hv0
      have eA : pA (sA mt 11 g) a x L 0 = nI a := if_neg (by omega)
      have eX : pX x 0 = nI x := if_neg (by omega)
      obtain ⟨a', x', ha', hx', hx2', p1, p2⟩ := next_pos (sA mt 11 g) L ha hb hx hx2
      rw [eA, eX, p1, p2, sA_sA] at r1 r2
      have ev : pV (sA mt 11 g) v = gI mt 5 := if_pos h7
      rw [ev] at r1 r2
      obtain ⟨g', s1, s2, s3⟩ := ih (x4 + 1) a' x' (upd g x4 (gI mt 5)) (by omega) (by omega) ha' hx' hx2' (by
        intro j hj
        by_cases e : j = x4
        · rw [e, pk_us]
        · rw [pk_un e, hg j (by omega)])
      exact ⟨g', r1.trans s1, ⟨fun z => absurd z c, fun _ => r2 s2⟩, s3⟩
    · have c : (2048 : Int32) ≤ nI x4 := nI_le (a := 2048) q (by omega)
      rw [if_pos c]
      exact ⟨g, rfl, ⟨fun _ => trivial, fun z => absurd c z⟩, fun j hj => hg j (by omega)⟩
/-- with the video on, both sides -/
theorem paint_on {st mt : CS} (hM : ∀ j, j < 16384 → gA st 0 j = gA mt 5 j) (hS : RScr st mt) {b : Nat} (hb : b1248 b) (hd : (1 : Int32) <<< (gI mt 6 &&& 31) = nI b) (h7 : ¬ gI mt 7 = 0) :
    ∀ n x4 a x f g, x4 + n = 2049 → x4 ≤ 2048 → a < 65536 → x + b ≤ 8 → x % b = 0 → (∀ j, j < x4 → f j = g j) →
      ∃ f' g', cScreen_makeFromMemory_b22 n (sA st 7 f) (nI b) (nI a) (nI x) (nI x4) = some (sA st 7 f') ∧ m_paint_b34 n (sA mt 11 g) (nI a) ((16 * gA mt 10 2 + 15) &&& 65535) (nI x) (nI x4) = some (sL (sI (sA mt 11 g') 9 1) 4 (gL mt 4 + 1)) ∧ o_m_paint_b34 n (sA mt 11 g) (nI a) ((16 * gA mt 10 2 + 15) &&& 65535) (nI x) (nI x4) ∧ ∀ j, j < 2048 → f' j = g' j := by
  have hb8 : 1 ≤ b ∧ b ≤ 8 := by rcases hb with rfl | rfl | rfl | rfl <;> omega
  intro n
  induction n with
  | zero => intro x4 a x f g h1 h2; omega
  | succ n ih =>
    intro x4 a x f g h1 h2 ha hx hx2 hg
    simp only [m_paint_b34, o_m_paint_b34, cScreen_makeFromMemory_b22, cScreen_makeFromMemory_b88]
    rcases Nat.lt_or_ge x4 2048 with q | q
    · have c : ¬ (2048 : Int32) ≤ nI x4 := nI_ge (b := 2048) q (by decide)
      rw [if_neg c, if_neg c]
      have hv : vBits (gA (sA st 7 f) 0 (a / 4)) (8 * (a % 4) + x) b _ := cv_bits (sA st 7 f) ha hb hx
      generalize ((ushr (cScreen_byteAt (sA st 7 f) (nI a)) (nI x)) &&& (((1 : Int32) <<< (nI b &&& 31)) - 1)) = v at hv ⊢
      have hw : gA (sA st 7 f) 0 (a / 4) = gA (sA mt 11 g) 5 (a / 4) := hM _ (by omega)
      rw [hw] at hv
      have hv0 : vBits (gA (sA mt 11 g) 5 (a / 4)) (8 * (a % 4) + x) 0 0 := fun i _ => by rw [b_0]; simp
      obtain ⟨r1, r2⟩ := inner (m_paint_b34 n) (o_m_paint_b34 n) (sA mt 11 g) ((16 * gA mt 10 2 + 15) &&& 65535) ha hb hx hd q v hv b 0 0 9 (by omega) rfl hv0
      have eA : pA (sA mt 11 g) a x ((16 * gA mt 10 2 + 15) &&& 65535) 0 = nI a := if_neg (by omega)
      have eX : pX x 0 = nI x := if_neg (by omega)
      obtain ⟨a', x', ha', hx', hx2', p1, p2⟩ := next_pos (sA mt 11 g) ((16 * gA mt 10 2 + 15) &&& 65535) ha hb hx hx2
      rw [eA, eX, p1, p2, sA_sA] at r1 r2
      have ev : pV (sA mt 11 g) v = gA mt 9 (v &&& 15).toNatClampNeg ^^^ ((v / 16) * 256) := if_neg h7
      have ec : (gA (sA st 7 f) 6 (v &&& 15).toNatClampNeg ^^^ ((ushr v 4) <<< ((8 : Int32) &&& 31))) = gA mt 9 (v &&& 15).toNatClampNeg ^^^ ((v / 16) * 256) := by
        obtain ⟨k, hk, ek⟩ := rng_and v (m := 15) 4 rfl
        have hk : k < 16 := hk
        rw [v_eq hb hv, ek, nI_clamp (by omega)]
        exact congrArg (fun z => z ^^^ _) (hS.2.2.2.2.2.2.2.1 k (by omega))
      rw [ev] at r1 r2
      rw [ec, nI_clamp (by omega), sA_sA, nI_1]
      have hnew : ∀ j, j < x4 + 1 → upd f x4 (gA mt 9 (v &&& 15).toNatClampNeg ^^^ ((v / 16) * 256)) j = upd g x4 (gA mt 9 (v &&& 15).toNatClampNeg ^^^ ((v / 16) * 256)) j := by
        intro j hj
        by_cases e : j = x4
        · rw [e, pk_us, pk_us]
        · rw [pk_un e, pk_un e, hg j (by omega)]
      obtain ⟨f', g', s0, s1, s2, s3⟩ := ih (x4 + 1) a' x' (upd f x4 (gA mt 9 (v &&& 15).toNatClampNeg ^^^ ((v / 16) * 256))) (upd g x4 (gA mt 9 (v &&& 15).toNatClampNeg ^^^ ((v / 16) * 256))) (by omega) (by omega) ha' hx' hx2' hnew
      refine ⟨f', g', ?_, r1.trans s1, ⟨fun z => absurd z c, fun _ => r2 s2⟩, s3⟩
      have e8 : nI x + nI b = nI (x + b) := nI_add x b
      rw [e8]
      by_cases w : x + b = 8
      · rw [if_pos (by rw [w]; rfl)]
        have eB : ∀ h, cScreen_behind (sA st 7 h) (nI a) = nI a' := by
          intro h
          unfold cScreen_behind
          show (if nI a = ((gI st 28 <<< ((4 : Int32) &&& 31)) + 15) &&& 65535 then ((gI st 27 <<< ((4 : Int32) &&& 31)) &&& 65535) else (nI a + 1) &&& 65535) = nI a'
          rw [shl4, shl4, hS.2.2.2.1, hS.2.2.2.2.1, ← p1]
          unfold pA
          rw [if_pos w]
          rfl
        have eX' : nI x' = 0 := by rw [← p2]; exact if_pos w
        rw [eB, ← eX']
        exact s0
      · rw [if_neg (show ¬ nI (x + b) = (8 : Int32) from nI_ne (b := 8) w (by omega) (by omega))]
        have eA' : nI a = nI a' := by rw [← p1]; exact (if_neg w).symm
        have eX' : nI (x + b) = nI x' := by rw [← p2]; exact (if_neg w).symm
        rw [eA', eX']
        exact s0
    · have c : (2048 : Int32) ≤ nI x4 := nI_le (a := 2048) q (by omega)
      rw [if_pos c, if_pos c]
      exact ⟨f, g, rfl, rfl, ⟨fun _ => trivial, fun z => absurd c z⟩, fun j hj => hg j (by omega)⟩
theorem fill_on (st : CS) (v : Int32) : ∀ n x4 f, x4 + n = 2049 → x4 ≤ 2048 → (∀ j, j < x4 → f j = v) → ∃ f', cArrays_fill17_b5 n (sA st 7 f) v (nI x4) 2048 = some (sA st 7 f') ∧ ∀ j, j < 2048 → f' j = v := by
  intro n
  induction n with
  | zero => intro x4 f h1 h2; omega
  | succ n ih =>
    intro x4 f h1 h2 hf
    simp only [cArrays_fill17_b5]
    rcases Nat.lt_or_ge x4 2048 with q | q
    · have c : ¬ (2048 : Int32) ≤ nI x4 := nI_ge (b := 2048) q (by decide)
      rw [if_neg c, nI_clamp (by omega), sA_sA, nI_1]
      exact ih (x4 + 1) _ (by omega) (by omega) (by
        intro j hj
        show upd f x4 v j = v
        by_cases e : j = x4
        · rw [e, pk_us]
        · rw [pk_un e, hf j (by omega)])
    · have c : (2048 : Int32) ≤ nI x4 := nI_le (a := 2048) q (by omega)
      rw [if_pos c]
      exact ⟨f, rfl, fun j hj => hf j (by omega)⟩
/-- a field's picture, both sides -/
theorem paint_eq {st mt : CS} (hM : ∀ j, j < 16384 → gA st 0 j = gA mt 5 j) (hS : RScr st mt) : o_m_paint mt ∧ ∃ f' g', (if gI st 29 = 0 then cArrays_fill17 st (gI st 24) else cScreen_makeFromMemory st) = sA st 7 f' ∧ m_paint mt = sL (sI (sA mt 11 g') 9 1) 4 (gL mt 4 + 1) ∧ ∀ j, j < 2048 → f' j = g' j := by
  obtain ⟨d, hd, ed⟩ := hS.2.2.2.2.2.2.1
  have hb : b1248 (2 ^ d) := by
    rcases (by omega : d = 0 ∨ d = 1 ∨ d = 2 ∨ d = 3) with rfl | rfl | rfl | rfl
    · exact Or.inl rfl
    · exact Or.inr (Or.inl rfl)
    · exact Or.inr (Or.inr (Or.inl rfl))
    · exact Or.inr (Or.inr (Or.inr rfl))
  have e6 : (1 : Int32) <<< (gI mt 6 &&& 31) = nI (2 ^ d) := by
    rw [ed]
    rcases (by omega : d = 0 ∨ d = 1 ∨ d = 2 ∨ d = 3) with rfl | rfl | rfl | rfl <;> decide
  have hb8 : 1 ≤ 2 ^ d ∧ 2 ^ d ≤ 8 := by rcases hb with e | e | e | e <;> omega
  obtain ⟨a0, ha0, ea0⟩ := m65535 (16 * gA mt 10 0)
  by_cases h7 : gI mt 7 = 0
  · have h29 : gI st 29 = 0 := hS.2.2.2.2.2.1.trans h7
    obtain ⟨g', s1, s2, s3⟩ := paint_off mt ((16 * gA mt 10 2 + 15) &&& 65535) hb e6 h7 2049 0 a0 0 (gA mt 11) rfl (by omega) ha0 (by omega) (Nat.zero_mod _) (fun j hj => by omega)
    rw [sA_self, ← ea0] at s1 s2
    obtain ⟨f', t1, t2⟩ := fill_on st (gI st 24) 2049 0 (gA st 7) rfl (by omega) (fun j hj => by omega)
    rw [sA_self] at t1
    refine ⟨⟨s2, _, s1⟩, f', g', ?_, congrArg (fun z => z.getD mt) s1, fun j hj => ?_⟩
    · rw [if_pos h29]
      exact congrArg (fun z => z.getD st) t1
    · rw [t2 j hj, s3 j hj, hS.1]
  · have h29 : ¬ gI st 29 = 0 := fun q => h7 (hS.2.2.2.2.2.1.symm.trans q)
    obtain ⟨f', g', s0, s1, s2, s3⟩ := paint_on hM hS hb e6 h7 2049 0 a0 0 (gA st 7) (gA mt 11) rfl (by omega) ha0 (by omega) (Nat.zero_mod _) (fun j hj => by omega)
    rw [sA_self, ← ea0] at s0 s1 s2
    refine ⟨⟨s2, _, s1⟩, f', g', ?_, congrArg (fun z => z.getD mt) s1, s3⟩
    rw [if_neg h29]
    unfold cScreen_makeFromMemory
    rw [hS.2.1, e6, shl4, hS.2.2.1]
    exact congrArg (fun z => z.getD st) s0
