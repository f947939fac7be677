/-! PURE 0: reading what was written; bits; small numbers -/
theorem gI_sI (st : CS) (k j : Nat) (v : Int32) : gI (sI st k v) j = if j = k then v else gI st j := rfl
theorem gI_sL (st : CS) (k j : Nat) (v : Int64) : gI (sL st k v) j = gI st j := rfl
theorem gI_sA (st : CS) (k j : Nat) (f : Nat → Int32) : gI (sA st k f) j = gI st j := rfl
theorem gI_sB (st : CS) (k j : Nat) (f : Nat → Int64) : gI (sB st k f) j = gI st j := rfl
theorem gL_sI (st : CS) (k j : Nat) (v : Int32) : gL (sI st k v) j = gL st j := rfl
theorem gL_sL (st : CS) (k j : Nat) (v : Int64) : gL (sL st k v) j = if j = k then v else gL st j := rfl
theorem gL_sA (st : CS) (k j : Nat) (f : Nat → Int32) : gL (sA st k f) j = gL st j := rfl
theorem gL_sB (st : CS) (k j : Nat) (f : Nat → Int64) : gL (sB st k f) j = gL st j := rfl
theorem gA_sI (st : CS) (k j : Nat) (v : Int32) : gA (sI st k v) j = gA st j := rfl
theorem gA_sL (st : CS) (k j : Nat) (v : Int64) : gA (sL st k v) j = gA st j := rfl
theorem gA_sA (st : CS) (k j : Nat) (f : Nat → Int32) : gA (sA st k f) j = if j = k then f else gA st j := rfl
theorem gA_sB (st : CS) (k j : Nat) (f : Nat → Int64) : gA (sB st k f) j = gA st j := rfl
theorem gB_sI (st : CS) (k j : Nat) (v : Int32) : gB (sI st k v) j = gB st j := rfl
theorem gB_sL (st : CS) (k j : Nat) (v : Int64) : gB (sL st k v) j = gB st j := rfl
theorem gB_sA (st : CS) (k j : Nat) (f : Nat → Int32) : gB (sA st k f) j = gB st j := rfl
theorem gB_sB (st : CS) (k j : Nat) (f : Nat → Int64) : gB (sB st k f) j = if j = k then f else gB st j := rfl
/-! ===== Int32 by its bits: bt x i ===== -/
def bt (x : Int32) (i : Nat) : Bool := x.toBitVec.getLsbD i
theorem b_ext {x y : Int32} (h : ∀ i, i < 32 → bt x i = bt y i) : x = y := Int32.toBitVec_inj.mp (BitVec.eq_of_getLsbD_eq (fun i hi => h i hi))
theorem b_or (x y : Int32) (i : Nat) : bt (x ||| y) i = (bt x i || bt y i) := by unfold bt; rw [Int32.toBitVec_or, BitVec.getLsbD_or]
theorem b_and (x y : Int32) (i : Nat) : bt (x &&& y) i = (bt x i && bt y i) := by unfold bt; rw [Int32.toBitVec_and, BitVec.getLsbD_and]
theorem b_xor (x y : Int32) (i : Nat) : bt (x ^^^ y) i = (bt x i ^^ bt y i) := by unfold bt; rw [Int32.toBitVec_xor, BitVec.getLsbD_xor]
theorem b_big {x : Int32} {i : Nat} (h : 32 ≤ i) : bt x i = false := BitVec.getLsbD_of_ge _ _ h
theorem b_m1 : ∀ i, i < 32 → bt (-1) i = true := by decide +kernel
theorem b_0 (i : Nat) : bt 0 i = false := BitVec.getLsbD_zero
theorem s_l : ∀ n, n < 32 → ((nI n &&& 31).toBitVec.smod 32).toNat = n := by decide +kernel
theorem s_u : ∀ n, n < 32 → (((nI n).toUInt32 &&& Int32.toUInt32 31).toBitVec % 32).toNat = n := by decide +kernel
theorem b_shl (n : Nat) (hn : n < 32) (x : Int32) {i : Nat} (hi : i < 32) : bt (x <<< (nI n &&& 31)) i = (decide (n ≤ i) && bt x (i - n)) := by
  unfold bt
  rw [Int32.toBitVec_shiftLeft]
  show (x.toBitVec <<< ((nI n &&& 31).toBitVec.smod 32).toNat).getLsbD i = _
  rw [s_l n hn, BitVec.getLsbD_shiftLeft]
  rcases Nat.lt_or_ge i n with h | h
  · simp [h, Nat.not_le.mpr h]
  · simp [hi, h, Nat.not_lt.mpr h]
theorem b_ushr (n : Nat) (hn : n < 32) (x : Int32) (i : Nat) : bt (ushr x (nI n)) i = bt x (n + i) := by
  show (x.toUInt32 >>> ((nI n).toUInt32 &&& Int32.toUInt32 31)).toBitVec.getLsbD i = x.toUInt32.toBitVec.getLsbD (n + i)
  rw [UInt32.toBitVec_shiftRight]
  show (x.toUInt32.toBitVec >>> (((nI n).toUInt32 &&& Int32.toUInt32 31).toBitVec % 32).toNat).getLsbD i = _
  rw [s_u n hn, BitVec.getLsbD_ushiftRight]
theorem b_sshr (n : Nat) (hn : n < 32) (x : Int32) {i : Nat} (hi : i < 32) : bt (x >>> (nI n &&& 31)) i = if n + i < 32 then bt x (n + i) else bt x 31 := by
  unfold bt
  rw [Int32.toBitVec_shiftRight]
  show (x.toBitVec.sshiftRight ((nI n &&& 31).toBitVec.smod 32).toNat).getLsbD i = _
  rw [s_l n hn, BitVec.getLsbD_sshiftRight, BitVec.msb_eq_getLsbD_last]
  simp [hi]
theorem b_nI (n : Nat) {i : Nat} (hi : i < 32) : bt (nI n) i = n.testBit i := by
  show (BitVec.ofNat 32 n).getLsbD i = _
  rw [BitVec.getLsbD_ofNat]
  simp [hi]
theorem b_mask (n : Nat) {i : Nat} (hi : i < 32) : bt (nI (2 ^ n - 1)) i = decide (i < n) := by
  rw [b_nI _ hi, Nat.testBit_two_pow_sub_one]
theorem b_pow (n : Nat) {i : Nat} (hi : i < 32) : bt (nI (2 ^ n)) i = decide (n = i) := by
  rw [b_nI _ hi, Nat.testBit_two_pow]
/-- a field of a word, by either shift -/
theorem fld (x : Int32) (k n : Nat) (h : k + n ≤ 32) (hn : 0 < n) : (x >>> (nI k &&& 31)) &&& nI (2 ^ n - 1) = ushr x (nI k) &&& nI (2 ^ n - 1) := by
  refine b_ext fun i hi => ?_
  rw [b_and, b_and, b_sshr k (by omega) x hi, b_ushr k (by omega) x i, b_mask n hi]
  by_cases hc : i < n
  · rw [if_pos (by omega)]
  · simp [hc]
/-- one bit of a word, by the shift and by the mask -/
theorem bit1 (x : Int32) (k : Nat) (hk : k < 32) : (x >>> (nI k &&& 31)) &&& 1 = if bt x k then 1 else 0 := by
  refine b_ext fun i hi => ?_
  rw [b_and, b_sshr k hk x hi, show (1 : Int32) = nI (2 ^ 0) from rfl, b_pow 0 hi]
  by_cases hc : 0 = i
  · subst hc
    rw [if_pos (by omega)]
    cases hb : bt x k <;> simp [hb, b_0, b_pow 0 (i := 0) (by omega)]
  · cases hb : bt x k <;> simp [hc, b_0]
    exact ((b_pow 0 hi).trans (decide_eq_false hc))
theorem bitm (x : Int32) (k : Nat) (hk : k < 32) : (x &&& nI (2 ^ k)) = 0 ↔ bt x k = false := by
  constructor
  · intro h
    have h1 := congrArg (fun z => bt z k) h
    simp only [b_and, b_pow k hk, b_0, decide_true, Bool.and_true] at h1
    exact h1
  · intro h
    refine b_ext fun i hi => ?_
    rw [b_and, b_pow k hi, b_0]
    by_cases hc : k = i
    · subst hc; simp [h]
    · simp [hc]
theorem bit1_1 (x : Int32) (k : Nat) (hk : k < 32) : (x >>> (nI k &&& 31)) &&& 1 = 1 ↔ bt x k = true := by
  rw [bit1 x k hk]
  cases bt x k <;> simp
theorem bit1_0 (x : Int32) (k : Nat) (hk : k < 32) : (x >>> (nI k &&& 31)) &&& 1 = 0 ↔ bt x k = false := by
  rw [bit1 x k hk]
  cases bt x k <;> simp
/-- small numbers -/
def rng (x : Int32) (n : Nat) : Prop := ∃ j : Nat, j < n ∧ x = nI j
def b01 (x : Int32) : Prop := x = 0 ∨ x = 1
theorem rng_in {x : Int32} {n : Nat} (h : rng x n) (hn : n < 2 ^ 31) : vp_in x n := by
  obtain ⟨j, hj, rfl⟩ := h
  exact vp_in_nI hj hn
theorem rng_of {x : Int32} {n : Nat} (hn : n < 2 ^ 31) (h0 : ¬ x < 0) (h : x < nI n) : rng x n := by
  obtain ⟨j, hj, rfl⟩ := nI_of h0
  exact ⟨j, (nI_ltI hj hn).mp h, rfl⟩
theorem rng_le {x : Int32} {n : Nat} (hn : n < 2 ^ 31) (h0 : 0 ≤ x) (h : x ≤ nI n) : rng x (n + 1) := by
  obtain ⟨j, hj, rfl⟩ := nI_of (Int32.not_lt.mpr h0)
  exact ⟨j, Nat.lt_succ_of_le ((nI_leI hj hn).mp h), rfl⟩
theorem rng_mono {x : Int32} {n k : Nat} (h : rng x n) (hk : n ≤ k) : rng x k := by
  obtain ⟨j, hj, rfl⟩ := h
  exact ⟨j, Nat.lt_of_lt_of_le hj hk, rfl⟩
theorem rng_and (x : Int32) {m : Int32} (k : Nat) (hm : m.toBitVec.toNat = 2 ^ k - 1) : rng (x &&& m) (2 ^ k) := by
  obtain ⟨j, hj, e⟩ := pk_andE x k hm
  exact ⟨j, hj, e⟩
theorem upd_eq {f g : Nat → Int32} {k : Nat} {v : Int32} {n : Nat} (h : ∀ j, j < n → f j = g j) : ∀ j, j < n → upd f k v j = upd g k v j := by
  intro j hj
  by_cases e : j = k
  · subst e; rw [pk_us, pk_us]
  · rw [pk_un e, pk_un e, h j hj]
