/-! PURE 17: what is shifted and turned -/
theorem neg_b (y : Int32) : bt y 31 = decide (y.toInt < 0) := by
  show y.toBitVec.getLsbD 31 = _
  have e := BitVec.msb_eq_getLsbD_last y.toBitVec
  rw [show (31 : Nat) = 32 - 1 from rfl, ← e, BitVec.msb_eq_toInt]
  rfl
theorem pos_b (y : Int32) : 0 ≤ y ↔ bt y 31 = false := by
  rw [neg_b, i_le]
  show (0 : Int) ≤ y.toInt ↔ _
  rw [decide_eq_false_iff_not]
  omega
theorem ush31 (y : Int32) : ushr y 31 = (bif bt y 31 then 1 else 0) := by
  refine b_ext fun i hi => ?_
  rw [show (31 : Int32) = nI 31 from rfl, b_ushr 31 (by decide)]
  have e : ∀ j, j < 32 → bt 1 j = decide (j = 0) := by decide +kernel
  by_cases c : i = 0
  · subst c
    cases bt y 31
    · exact (b_0 0).symm
    · rfl
  · rw [b_big (by omega)]
    cases bt y 31
    · exact (b_0 i).symm
    · show false = bt 1 i
      rw [e i hi, decide_eq_false c]
theorem ush31_if (y : Int32) : ushr y 31 = (if 0 ≤ y then 0 else 1) := by
  rw [ush31]
  cases c : bt y 31
  · rw [if_pos ((pos_b y).mpr c)]; rfl
  · rw [if_neg (fun q => by rw [(pos_b y).mp q] at c; exact absurd c (by decide))]; rfl
theorem and1_01 (x : Int32) : b01 (x &&& 1) := by
  obtain ⟨j, hj, e⟩ := rng_and x (m := 1) 1 rfl
  rw [e]
  rcases (by omega : j = 0 ∨ j = 1) with rfl | rfl
  · exact Or.inl rfl
  · exact Or.inr rfl
theorem m_bit_is (x k : Int32) : m_bit x k = ushr x k &&& 1 := by
  unfold m_bit
  rcases and1_01 (ushr x k) with e | e
  · rw [e, if_neg (by decide)]
  · rw [e, if_pos rfl]
theorem m_bit_01 (x k : Int32) : m_bit x k = 0 ∨ m_bit x k = 1 := by rw [m_bit_is]; exact and1_01 _
theorem turned_eq (x : Int32) {n : Nat} (hn : n < 256) : cProcessor_turned x (nI (n % 32)) = m_turned x (nI n) := by
  unfold cProcessor_turned m_turned
  rw [show nI n - nI n / 32 * 32 = nI (n % 32) from pk_rem (d := 32) (by omega) (by omega) (by omega)]
theorem sh0 (st mt : CS) (x : Int32) {n : Nat} (h1 : 1 ≤ n) (hn : n < 256) : ∃ c y, b01 c ∧ cProcessor_shifted st x 0 (nI n) = (sI st 33 c, y) ∧ m_moved mt 0 x (nI n) = (sI mt 4 c, y) ∧ o_m_moved mt 0 x (nI n) := by
  have n0 : ¬ nI n = 0 := nI_ne0 h1 (by omega)
  unfold cProcessor_shifted cProcessor_shifted_b63 m_moved m_moved_b53 m_moved_b54 o_m_moved o_m_moved_b53 o_m_moved_b54
  rw [if_neg n0, if_pos rfl, if_pos rfl]
  by_cases c : 32 < n
  · have c1 : (32 : Int32) < nI n := nI_lt (a := 32) c (by omega)
    have c2 : (32 : Int32) ≤ nI n := nI_le (a := 32) (by omega) (by omega)
    rw [if_pos c1, if_pos c1, if_pos c2, if_pos c2]
    exact ⟨0, 0, Or.inl rfl, rfl, rfl, fun _ => ⟨fun _ => ⟨Or.inl rfl, trivial⟩, fun q => absurd c1 q⟩, fun q => absurd rfl q⟩
  · have c1 : ¬ (32 : Int32) < nI n := nI_nlt (b := n) (a := 32) (by omega) (by omega)
    rw [if_neg c1, if_neg c1, show (32 : Int32) - nI n = nI (32 - n) from pk_sub (a := 32) (by omega), nand (j := 32 - n) 5 rfl (by omega) (by omega), ← m_bit_is]
    have o : (m_bit x (nI (32 - n)) = 0 → (((0 : Int32) = 0 ∨ (0 : Int32) = 1) ∧ True)) ∧ (¬ m_bit x (nI (32 - n)) = 0 → (((1 : Int32) = 0 ∨ (1 : Int32) = 1) ∧ True)) := ⟨fun _ => ⟨Or.inl rfl, trivial⟩, fun _ => ⟨Or.inr rfl, trivial⟩⟩
    refine ⟨m_bit x (nI (32 - n)), (if (32 : Int32) ≤ nI n then 0 else x <<< (nI n &&& 31)), m_bit_01 _ _, ?_, ?_, fun _ => ⟨fun q => absurd q c1, fun _ => o⟩, fun q => absurd rfl q⟩
    · by_cases d : (32 : Int32) ≤ nI n
      · rw [if_pos d, if_pos d]
      · rw [if_neg d, if_neg d]
    · rcases m_bit_01 x (nI (32 - n)) with e | e
      · rw [e, if_pos rfl]
        by_cases d : (32 : Int32) ≤ nI n
        · rw [if_pos d, if_pos d]
        · rw [if_neg d, if_neg d]
      · rw [e, if_neg (by decide)]
        by_cases d : (32 : Int32) ≤ nI n
        · rw [if_pos d, if_pos d]
        · rw [if_neg d, if_neg d]
theorem sh1 (st mt : CS) (x : Int32) {n : Nat} (h1 : 1 ≤ n) (hn : n < 256) : ∃ c y, b01 c ∧ cProcessor_shifted st x 1 (nI n) = (sI st 33 c, y) ∧ m_moved mt 1 x (nI n) = (sI mt 4 c, y) ∧ o_m_moved mt 1 x (nI n) := by
  have n0 : ¬ nI n = 0 := nI_ne0 h1 (by omega)
  have z : ¬ (1 : Int32) = 0 := by decide
  unfold cProcessor_shifted cProcessor_shifted_b98 m_moved m_moved_b95 m_moved_b96 o_m_moved o_m_moved_b95 o_m_moved_b96
  rw [if_neg n0, if_neg z, if_neg z, if_pos rfl, if_pos rfl]
  by_cases c : 32 < n
  · have c1 : (32 : Int32) < nI n := nI_lt (a := 32) c (by omega)
    have c2 : (32 : Int32) ≤ nI n := nI_le (a := 32) (by omega) (by omega)
    rw [if_pos c1, if_pos c1, if_pos c2, if_pos c2]
    exact ⟨0, 0, Or.inl rfl, rfl, rfl, fun q => absurd q z, fun _ => ⟨fun _ => ⟨fun _ => ⟨Or.inl rfl, trivial⟩, fun q => absurd c1 q⟩, fun q => absurd rfl q⟩⟩
  · have c1 : ¬ (32 : Int32) < nI n := nI_nlt (b := n) (a := 32) (by omega) (by omega)
    rw [if_neg c1, if_neg c1, show nI n - (1 : Int32) = nI (n - 1) from pk_sub (b := 1) (by omega), nand (j := n - 1) 5 rfl (by omega) (by omega), ← m_bit_is]
    have o : (m_bit x (nI (n - 1)) = 0 → (((0 : Int32) = 0 ∨ (0 : Int32) = 1) ∧ True)) ∧ (¬ m_bit x (nI (n - 1)) = 0 → (((1 : Int32) = 0 ∨ (1 : Int32) = 1) ∧ True)) := ⟨fun _ => ⟨Or.inl rfl, trivial⟩, fun _ => ⟨Or.inr rfl, trivial⟩⟩
    refine ⟨m_bit x (nI (n - 1)), (if (32 : Int32) ≤ nI n then 0 else ushr x (nI n)), m_bit_01 _ _, ?_, ?_, fun q => absurd q z, fun _ => ⟨fun _ => ⟨fun q => absurd q c1, fun _ => o⟩, fun q => absurd rfl q⟩⟩
    · by_cases d : (32 : Int32) ≤ nI n
      · rw [if_pos d, if_pos d]
      · rw [if_neg d, if_neg d]
    · rcases m_bit_01 x (nI (n - 1)) with e | e
      · rw [e, if_pos rfl]
        by_cases d : (32 : Int32) ≤ nI n
        · rw [if_pos d, if_pos d]
        · rw [if_neg d, if_neg d]
      · rw [e, if_neg (by decide)]
        by_cases d : (32 : Int32) ≤ nI n
        · rw [if_pos d, if_pos d]
        · rw [if_neg d, if_neg d]
theorem sh2 (st mt : CS) (x : Int32) {n : Nat} (h1 : 1 ≤ n) (hn : n < 256) : ∃ c y, b01 c ∧ cProcessor_shifted st x 2 (nI n) = (sI st 33 c, y) ∧ m_moved mt 2 x (nI n) = (sI mt 4 c, y) ∧ o_m_moved mt 2 x (nI n) := by
  have n0 : ¬ nI n = 0 := nI_ne0 h1 (by omega)
  have z0 : ¬ (2 : Int32) = 0 := by decide
  have z1 : ¬ (2 : Int32) = 1 := by decide
  unfold cProcessor_shifted m_moved m_moved_b129 o_m_moved o_m_moved_b129
  rw [if_neg n0, if_neg z0, if_neg z0, if_neg z1, if_neg z1, if_pos rfl, if_pos rfl, show nI n - (1 : Int32) = nI (n - 1) from pk_sub (b := 1) (by omega)]
  have f : ∀ k, k < 32 → (x >>> (nI k &&& 31)) &&& 1 = m_bit x (nI k) := fun k hk => by
    rw [m_bit_is]
    exact fld x k 1 (by omega) (by decide)
  by_cases c : 32 ≤ n
  · have c2 : (32 : Int32) ≤ nI n := nI_le (a := 32) (by omega) (by omega)
    have c3 : (31 : Int32) < nI n := nI_lt (a := 31) (by omega) (by omega)
    have e : (if (31 : Int32) < nI (n - 1) then (31 : Int32) else nI (n - 1)) = nI 31 := by
      by_cases d : n = 32
      · subst d; rfl
      · rw [if_pos (show (31 : Int32) < nI (n - 1) from nI_lt (a := 31) (by omega) (by omega))]; rfl
    rw [if_pos c2, if_pos c2, if_pos c3, e, f 31 (by decide)]
    exact ⟨m_bit x (nI 31), _, m_bit_01 _ _, rfl, rfl, fun q => absurd q z0, fun _ => ⟨fun q => absurd q z1, fun _ => ⟨fun _ => ⟨fun _ => ⟨m_bit_01 _ _, trivial⟩, fun q => absurd c2 q⟩, fun q => absurd rfl q⟩⟩⟩
  · have c2 : ¬ (32 : Int32) ≤ nI n := nI_ge (b := 32) (by omega) (by omega)
    have c3 : ¬ (31 : Int32) < nI n := nI_nlt (b := n) (a := 31) (by omega) (by omega)
    have c4 : ¬ (31 : Int32) < nI (n - 1) := nI_nlt (b := n - 1) (a := 31) (by omega) (by omega)
    rw [if_neg c2, if_neg c2, if_neg c3, if_neg c4, f (n - 1) (by omega)]
    exact ⟨m_bit x (nI (n - 1)), _, m_bit_01 _ _, rfl, rfl, fun q => absurd q z0, fun _ => ⟨fun q => absurd q z1, fun _ => ⟨fun _ => ⟨fun q => absurd q c2, fun _ => ⟨m_bit_01 _ _, trivial⟩⟩, fun q => absurd rfl q⟩⟩⟩
theorem sh3 (st mt : CS) (x : Int32) {n : Nat} (h1 : 1 ≤ n) (hn : n < 256) : ∃ c y, b01 c ∧ cProcessor_shifted st x 3 (nI n) = (sI st 33 c, y) ∧ m_moved mt 3 x (nI n) = (sI mt 4 c, y) ∧ o_m_moved mt 3 x (nI n) := by
  have n0 : ¬ nI n = 0 := nI_ne0 h1 (by omega)
  have z0 : ¬ (3 : Int32) = 0 := by decide
  have z1 : ¬ (3 : Int32) = 1 := by decide
  have z2 : ¬ (3 : Int32) = 2 := by decide
  unfold cProcessor_shifted m_moved m_moved_b170 o_m_moved o_m_moved_b170
  rw [if_neg n0, if_neg z0, if_neg z0, if_neg z1, if_neg z1, if_neg z2, if_neg z2, show nI n &&& (31 : Int32) = nI (n % 32) from pk_andN (by omega) 5 rfl, turned_eq x hn, ush31_if]
  have o : (0 ≤ m_turned x (nI n) → ((0 : Int32) = 0 ∨ (0 : Int32) = 1) ∧ True) ∧ (¬ 0 ≤ m_turned x (nI n) → ((1 : Int32) = 0 ∨ (1 : Int32) = 1) ∧ True) := ⟨fun _ => ⟨Or.inl rfl, trivial⟩, fun _ => ⟨Or.inr rfl, trivial⟩⟩
  by_cases c : 0 ≤ m_turned x (nI n)
  · rw [if_pos c, if_pos c]
    exact ⟨0, _, Or.inl rfl, rfl, rfl, fun q => absurd q z0, fun _ => ⟨fun q => absurd q z1, fun _ => ⟨fun q => absurd q z2, fun _ => o⟩⟩⟩
  · rw [if_neg c, if_neg c]
    exact ⟨1, _, Or.inr rfl, rfl, rfl, fun q => absurd q z0, fun _ => ⟨fun q => absurd q z1, fun _ => ⟨fun q => absurd q z2, fun _ => o⟩⟩⟩
theorem sh_eq (st mt : CS) (x : Int32) {b n : Nat} (hb : b < 4) (h1 : 1 ≤ n) (hn : n < 256) : ∃ c y, b01 c ∧ cProcessor_shifted st x (nI b) (nI n) = (sI st 33 c, y) ∧ m_moved mt (nI b) x (nI n) = (sI mt 4 c, y) ∧ o_m_moved mt (nI b) x (nI n) := by
  rcases (by omega : b = 0 ∨ b = 1 ∨ b = 2 ∨ b = 3) with rfl | rfl | rfl | rfl
  · exact sh0 st mt x h1 hn
  · exact sh1 st mt x h1 hn
  · exact sh2 st mt x h1 hn
  · exact sh3 st mt x h1 hn
theorem sh_0 (st : CS) (x b : Int32) : cProcessor_shifted st x b 0 = (sI st 33 (cRegisters_carry st), x) := by
  unfold cProcessor_shifted
  rw [if_pos rfl]
theorem f_7 (w : Int32) : (w >>> ((7 : Int32) &&& 31)) &&& 31 = ushr w 7 &&& 31 := fld w 7 5 (by decide) (by decide)
theorem f_5 (w : Int32) : (w >>> ((5 : Int32) &&& 31)) &&& 3 = ushr w 5 &&& 3 := fld w 5 2 (by decide) (by decide)
theorem f_8 (w : Int32) : (w >>> ((8 : Int32) &&& 31)) &&& 15 = ushr w 8 &&& 15 := fld w 8 4 (by decide) (by decide)
theorem f_12 (w : Int32) : (w >>> ((12 : Int32) &&& 31)) &&& 15 = ushr w 12 &&& 15 := fld w 12 4 (by decide) (by decide)
theorem f_16 (w : Int32) : (w >>> ((16 : Int32) &&& 31)) &&& 15 = ushr w 16 &&& 15 := fld w 16 4 (by decide) (by decide)
theorem f_21 (w : Int32) : (w >>> ((21 : Int32) &&& 31)) &&& 15 = ushr w 21 &&& 15 := fld w 21 4 (by decide) (by decide)
theorem ush_0 (w : Int32) : ushr w 0 = w := b_ext fun i hi => by
  rw [show (0 : Int32) = nI 0 from rfl, b_ushr 0 (by decide), Nat.zero_add]
theorem part_N (st : CS) (k : Int32) : ∃ j, j < 16 ∧ cProcessor_part st k = nI j := rng_and (ushr (gI st 32) k) (m := 15) 4 rfl
theorem RRX : ∀ b : Bool, (bif b then (1 : Int32) else 0) <<< ((31 : Int32) &&& 31) = (if (bif b then (1 : Int32) else 0) = 0 then 0 else -2147483648) := by decide +kernel
theorem bn_eq {st mt : CS} {w : Int32} (hs : SG st mt) (hw : gI st 32 = w) (x : Int32) : ∃ c y, b01 c ∧ cProcessor_shiftedByBits st x = (sI st 33 c, y) ∧ m_byNumber mt w x = (sI mt 4 c, y) ∧ o_m_byNumber mt w x := by
  have i1 : m_is mt 29 = 0 ∨ m_is mt 29 = 1 := m_is_01 mt 29 (by decide)
  unfold cProcessor_shiftedByBits cProcessor_shiftedByBits_b28 m_byNumber m_byNumber_b78 o_m_byNumber o_m_byNumber_b78
  rw [hw, f_7, f_5]
  obtain ⟨a, ha, ea⟩ := rng_and (ushr w 7) (m := 31) 5 rfl
  obtain ⟨b, hb, eb⟩ := rng_and (ushr w 5) (m := 3) 2 rfl
  rw [ea, eb]
  by_cases a0 : a = 0
  · subst a0
    rw [if_pos (show nI 0 = 0 from rfl), if_pos (show nI 0 ≤ 0 by decide)]
    by_cases b0 : b = 0
    · subst b0
      rw [if_pos (show nI 0 = 0 from rfl), if_pos (show nI 0 = 0 from rfl), show nI 0 = 0 from rfl, sh_0, sg_carry hs]
      exact ⟨_, _, i1, rfl, rfl, i1, fun _ => ⟨fun _ => trivial, fun q => absurd rfl q⟩, fun q => absurd (by decide) q⟩
    · have b1 : ¬ nI b = 0 := nI_ne0 (by omega) (by omega)
      rw [if_neg b1, if_neg b1]
      by_cases b3 : b = 3
      · subst b3
        have b3' : nI 3 = 3 := rfl
        have b4 : (3 : Int32) ≤ nI 3 := by decide
        rw [if_pos b3', if_pos b4, show cRegisters_carry (sI st 33 (x &&& 1)) = cRegisters_carry st from rfl, sg_carry hs, sI_sI]
        have e : m_bit x 0 = x &&& 1 := by rw [m_bit_is, ush_0]
        have r : m_is mt 29 <<< ((31 : Int32) &&& 31) = (if m_is mt 29 = 0 then 0 else -2147483648) := by
          rw [show m_is mt 29 = (bif bt (gI mt 1) 29 then 1 else 0) from m_is_b mt 29 (by decide)]
          exact RRX _
        rw [e, r]
        have o : ((x &&& 1 = 0 ∨ x &&& 1 = 1) ∧ True) := ⟨and1_01 x, trivial⟩
        refine ⟨x &&& 1, _, and1_01 x, rfl, ?_, i1, fun _ => ⟨fun q => absurd q b1, fun _ => ⟨fun _ => ⟨fun _ => o, fun _ => o⟩, fun q => absurd b4 q⟩⟩, fun q => absurd (by decide) q⟩
        by_cases z : m_is mt 29 = 0
        · rw [if_pos z, if_pos z]
        · rw [if_neg z, if_neg z]
      · have b3' : ¬ nI b = 3 := nI_ne (b := 3) b3 (by omega) (by omega)
        have b4 : ¬ (3 : Int32) ≤ nI b := nI_ge (b := 3) (by omega) (by omega)
        rw [if_neg b3', if_neg b4]
        obtain ⟨c, y, r1, r2, r3, r4⟩ := sh_eq st (sI mt 4 (m_is mt 29)) x hb (n := 32) (by decide) (by decide)
        rw [sI_sI] at r3
        exact ⟨c, y, r1, r2, r3, i1, fun _ => ⟨fun q => absurd q b1, fun _ => ⟨fun q => absurd q b4, fun _ => ⟨r4, trivial⟩⟩⟩, fun q => absurd (by decide) q⟩
  · have a1 : ¬ nI a = 0 := nI_ne0 (by omega) (by omega)
    have a2 : ¬ nI a ≤ 0 := nI_nle (by omega) (by omega)
    rw [if_neg a1, if_neg a2]
    obtain ⟨c, y, r1, r2, r3, r4⟩ := sh_eq st (sI mt 4 (m_is mt 29)) x hb (n := a) (by omega) (by omega)
    rw [sI_sI] at r3
    exact ⟨c, y, r1, r2, r3, i1, fun q => absurd q a2, fun _ => ⟨r4, trivial⟩⟩
theorem tb_eq {st mt : CS} {w : Int32} (hs : SG st mt) (hw : gI st 32 = w) : ∃ j, j < 16 ∧ (w >>> ((8 : Int32) &&& 31)) &&& 15 = nI j ∧ cProcessor_turnedByte st = (sI st 33 (if nI (2 * j) = 0 then m_is mt 29 else if 0 ≤ m_turned (w &&& 255) (nI (2 * j)) then 0 else 1), m_turned (w &&& 255) (nI (2 * j))) := by
  rw [f_8]
  obtain ⟨j, hj, ej⟩ := rng_and (ushr w 8) (m := 15) 4 rfl
  refine ⟨j, hj, ej, ?_⟩
  unfold cProcessor_turnedByte cProcessor_turnedByte_b41 cProcessor_part
  rw [hw, ej, show (2 : Int32) * nI j = nI (2 * j) from pk_mul 2 j]
  have e : cProcessor_turned (w &&& 255) (nI (2 * j)) = m_turned (w &&& 255) (nI (2 * j)) := by
    rw [← turned_eq _ (by omega), Nat.mod_eq_of_lt (show 2 * j < 32 by omega)]
  rw [e, ush31_if, sg_carry hs]
  by_cases c : nI (2 * j) = 0
  · rw [if_pos c, if_pos c]
  · rw [if_neg c, if_neg c]
