/-! PURE 18: sums and signs -/
theorem lo_l (x : Int32) : x.toInt64 &&& 4294967295 = lN x.toBitVec.toNat := by
  apply Int64.toBitVec_inj.mp
  rw [Int64.toBitVec_and]
  show _ = BitVec.ofNat 64 x.toBitVec.toNat
  refine BitVec.eq_of_getLsbD_eq fun i hi => ?_
  have e : ∀ j, j < 64 → (4294967295 : Int64).toBitVec.getLsbD j = decide (j < 32) := by decide +kernel
  rw [BitVec.getLsbD_and, BitVec.getLsbD_ofNat, e i hi]
  by_cases c : i < 32
  · rw [decide_eq_true c, Bool.and_true, decide_eq_true hi, Bool.true_and]
    show (x.toBitVec.signExtend 64).getLsbD i = _
    rw [BitVec.getLsbD_signExtend, if_pos c, decide_eq_true hi, Bool.true_and]
    rfl
  · rw [decide_eq_false c, Bool.and_false]
    have z : x.toBitVec.getLsbD i = false := BitVec.getLsbD_of_ge _ _ (by omega)
    rw [show x.toBitVec.toNat.testBit i = x.toBitVec.getLsbD i from rfl, z, Bool.and_false]
def sm (a b : Int32) (k : Nat) : Nat := a.toBitVec.toNat + b.toBitVec.toNat + k
theorem sm_lt (a b : Int32) {k : Nat} (hk : k ≤ 1) : sm a b k < 2 ^ 33 := by
  have h1 := a.toBitVec.isLt
  have h2 := b.toBitVec.isLt
  unfold sm
  omega
theorem sum_l (a b : Int32) {k : Nat} (hk : k ≤ 1) : ((a.toInt64 &&& 4294967295) + (b.toInt64 &&& 4294967295)) + (nI k).toInt64 = lN (sm a b k) := by
  rw [lo_l, lo_l, nI_l (by omega), lN_add, lN_add]
  rfl
theorem ulsh32 {s : Nat} (hs : s < 2 ^ 63) : ulshr (lN s) 32 = lN (s / 2 ^ 32) := by
  apply Int64.toBitVec_inj.mp
  show (BitVec.ofNat 64 s) >>> 32 = BitVec.ofNat 64 (s / 2 ^ 32)
  apply BitVec.eq_of_toNat_eq
  rw [BitVec.toNat_ushiftRight, BitVec.toNat_ofNat, BitVec.toNat_ofNat, Nat.shiftRight_eq_div_pow, Nat.mod_eq_of_lt (by omega), Nat.mod_eq_of_lt (by omega)]
theorem ssh32 {s : Nat} (hs : s < 2 ^ 63) : (lN s) >>> ((32 : Int32).toInt64 &&& 63) = lN (s / 2 ^ 32) := by
  apply Int64.toInt_inj.mp
  show ((BitVec.ofNat 64 s).sshiftRight 32).toInt = _
  rw [BitVec.toInt_sshiftRight, pk_lT (by omega), show (BitVec.ofNat 64 s).toInt = (s : Int) from pk_lT hs, Int.shiftRight_eq_div_pow]
  rfl
theorem lgc_0 (x y : Int64) : lg_cmp x y = 0 ↔ x = y := by
  unfold lg_cmp
  by_cases h : x = y
  · subst h
    rw [if_neg (fun q => by have := Int64.lt_iff_toInt_lt.mp q; omega), if_pos rfl]
    simp
  · by_cases c : y < x
    · rw [if_pos c]
      exact ⟨fun q => absurd q (by decide), fun q => absurd q h⟩
    · rw [if_neg c, if_neg h]
      exact ⟨fun q => absurd q (by decide), fun q => absurd q h⟩
theorem ti (x : Int32) : x.toBitVec.toNat < 2 ^ 32 ∧ ((x.toBitVec.toNat < 2 ^ 31 ∧ x.toInt = x.toBitVec.toNat) ∨ (2 ^ 31 ≤ x.toBitVec.toNat ∧ x.toInt = (x.toBitVec.toNat : Int) - 2 ^ 32)) := by
  have h := x.toBitVec.isLt
  refine ⟨h, ?_⟩
  have e : x.toInt = x.toBitVec.toInt := rfl
  rw [e, BitVec.toInt_eq_toNat_cond]
  by_cases c : 2 * x.toBitVec.toNat < 2 ^ 32
  · rw [if_pos c]; left; exact ⟨by omega, rfl⟩
  · rw [if_neg c]; right; refine ⟨by omega, ?_⟩; omega
theorem ov_eq (a b : Int32) {k : Nat} (hk : k ≤ 1) : lg_cmp ((a.toInt64 + b.toInt64) + (nI k).toInt64) ((nI (sm a b k)).toInt64) = 0 ↔ bt ((a ^^^ nI (sm a b k)) &&& (b ^^^ nI (sm a b k))) 31 = false := by
  have ha := ti a
  have hb := ti b
  have hy := ti (nI (sm a b k))
  have ey : (nI (sm a b k)).toBitVec.toNat = (a.toBitVec.toNat + b.toBitVec.toNat + k) % 2 ^ 32 := BitVec.toNat_ofNat _ _
  rw [ey] at hy
  rw [lgc_0, ← Int64.toInt_inj, Int64.toInt_add, Int64.toInt_add, Int32.toInt_toInt64, Int32.toInt_toInt64, Int32.toInt_toInt64, Int32.toInt_toInt64, nI_toInt (n := k) (by omega)]
  have e1 : (a.toInt + b.toInt).bmod (2 ^ 64) = a.toInt + b.toInt := Int.bmod_eq_of_le (by omega) (by omega)
  have e2 : (a.toInt + b.toInt + (k : Int)).bmod (2 ^ 64) = a.toInt + b.toInt + (k : Int) := Int.bmod_eq_of_le (by omega) (by omega)
  rw [e1, e2, b_and, b_xor, b_xor, neg_b, neg_b, neg_b]
  by_cases c1 : a.toInt < 0
  · by_cases c2 : b.toInt < 0
    · by_cases c3 : (nI (sm a b k)).toInt < 0
      · simp only [c1, c2, c3, decide_true]; constructor <;> intro q <;> first | rfl | omega
      · simp only [c1, c2, c3, decide_true, decide_false]; constructor <;> intro q <;> first | (exact absurd q (by decide)) | omega
    · by_cases c3 : (nI (sm a b k)).toInt < 0
      · simp only [c1, c2, c3, decide_true, decide_false]; constructor <;> intro q <;> first | rfl | omega
      · simp only [c1, c2, c3, decide_true, decide_false]; constructor <;> intro q <;> first | rfl | omega
  · by_cases c2 : b.toInt < 0
    · by_cases c3 : (nI (sm a b k)).toInt < 0
      · simp only [c1, c2, c3, decide_true, decide_false]; constructor <;> intro q <;> first | rfl | omega
      · simp only [c1, c2, c3, decide_true, decide_false]; constructor <;> intro q <;> first | rfl | omega
    · by_cases c3 : (nI (sm a b k)).toInt < 0
      · simp only [c1, c2, c3, decide_true, decide_false]; constructor <;> intro q <;> first | (exact absurd q (by decide)) | omega
      · simp only [c1, c2, c3, decide_false]; constructor <;> intro q <;> first | rfl | omega
def fl4 (s : Int32) (n z c v : Bool) : Int32 := stb (stb (stb (stb s 29 c) 28 v) 31 n) 30 z
theorem b_fl4 (s : Int32) (n z c v : Bool) {i : Nat} (hi : i < 32) : bt (fl4 s n z c v) i = if i = 31 then n else if i = 30 then z else if i = 29 then c else if i = 28 then v else bt s i := by
  unfold fl4
  rw [b_stb _ 30 _ (by decide) hi, b_stb _ 31 _ (by decide) hi, b_stb _ 28 _ (by decide) hi, b_stb _ 29 _ (by decide) hi]
  by_cases c1 : i = 31
  · subst c1; rfl
  · by_cases c2 : i = 30
    · subst c2; rfl
    · by_cases c3 : i = 29
      · subst c3; rfl
      · by_cases c4 : i = 28
        · subst c4; rfl
        · rw [if_neg c2, if_neg c1, if_neg c4, if_neg c3, if_neg c1, if_neg c2, if_neg c3, if_neg c4]
theorem fl4_log (s : Int32) (n z c : Bool) : stb (stb (stb s 31 n) 30 z) 29 c = fl4 s n z c (bt s 28) := b_ext fun i hi => by
  rw [b_fl4 _ _ _ _ _ hi, b_stb _ 29 _ (by decide) hi, b_stb _ 30 _ (by decide) hi, b_stb _ 31 _ (by decide) hi]
  by_cases c1 : i = 31
  · subst c1; rfl
  · by_cases c2 : i = 30
    · subst c2; rfl
    · by_cases c3 : i = 29
      · subst c3; rfl
      · by_cases c4 : i = 28
        · subst c4; rfl
        · rw [if_neg c3, if_neg c2, if_neg c1, if_neg c1, if_neg c2, if_neg c3, if_neg c4]
theorem b276_1 (M : CS) (y y0 : Int32) : m_result_b276 M 1 y y0 = ((if y0 = 0 then sI M 1 (stb (stb (stb (gI M 1) 31 (bt y 31)) 30 (decide (y = 0))) 29 (decide (¬ gI M 4 = 0))) else sI M 1 (stb (stb (gI M 1) 31 (bt y 31)) 30 (decide (y = 0)))), y) := by
  have s31 : ∀ v, m_set M 31 v = sI M 1 (stb (gI M 1) 31 (decide (¬ v = 0))) := fun v => set_is M 31 v
  have s30 : ∀ u v, m_set (sI M 1 u) 30 v = sI M 1 (stb u 30 (decide (¬ v = 0))) := fun u v => by
    have := set_is (sI M 1 u) 30 v
    rw [sI_sI] at this
    exact this
  have s29 : ∀ u v, m_set (sI M 1 u) 29 v = sI M 1 (stb u 29 (decide (¬ v = 0))) := fun u v => by
    have := set_is (sI M 1 u) 29 v
    rw [sI_sI] at this
    exact this
  have g4 : ∀ u, gI (sI M 1 u) 4 = gI M 4 := fun u => rfl
  unfold m_result_b276 m_result_b296 m_result_b299 m_result_b312 m_result_b315
  rw [if_neg (show ¬ (1 : Int32) = 0 by decide), s31, s31, s30, s30, s30, s30, s29, s29, s29, s29, g4, g4, g4, g4]
  have d0 : decide (¬ (0 : Int32) = 0) = false := by decide
  have d1 : decide (¬ (1 : Int32) = 0) = true := by decide
  rw [d0, d1]
  cases cb : bt y 31
  · rw [if_pos ((pos_b y).mpr cb)]
    by_cases c : y = 0
    · rw [if_pos c, decide_eq_true c]
      by_cases e : y0 = 0
      · rw [if_pos e, if_pos e]
      · rw [if_neg e, if_neg e]
    · rw [if_neg c, decide_eq_false c]
      by_cases e : y0 = 0
      · rw [if_pos e, if_pos e]
      · rw [if_neg e, if_neg e]
  · rw [if_neg (fun q => by rw [(pos_b y).mp q] at cb; exact absurd cb (by decide))]
    by_cases c : y = 0
    · rw [if_pos c, decide_eq_true c]
      by_cases e : y0 = 0
      · rw [if_pos e, if_pos e]
      · rw [if_neg e, if_neg e]
    · rw [if_neg c, decide_eq_false c]
      by_cases e : y0 = 0
      · rw [if_pos e, if_pos e]
      · rw [if_neg e, if_neg e]
theorem summed_0 (M : CS) (a b : Int32) {k : Nat} (hk : k ≤ 1) : m_summed M a b (nI k) 0 = (M, nI (sm a b k)) := by
  unfold m_summed
  rw [if_pos rfl, sum_l a b hk, lN_i]
theorem summed_1 (M : CS) (a b : Int32) {k : Nat} (hk : k ≤ 1) : m_summed M a b (nI k) 1 = (sI M 1 (stb (stb (gI M 1) 29 (decide (sm a b k / 2 ^ 32 = 1))) 28 (bt ((a ^^^ nI (sm a b k)) &&& (b ^^^ nI (sm a b k))) 31)), nI (sm a b k)) := by
  have h := sm_lt a b hk
  have s29 : ∀ v, m_set M 29 v = sI M 1 (stb (gI M 1) 29 (decide (¬ v = 0))) := fun v => set_is M 29 v
  have s28 : ∀ u v, m_set (sI M 1 u) 28 v = sI M 1 (stb u 28 (decide (¬ v = 0))) := fun u v => by
    have := set_is (sI M 1 u) 28 v
    rw [sI_sI] at this
    exact this
  unfold m_summed m_summed_b56 m_summed_b59 m_summed_b76
  rw [if_neg (show ¬ (1 : Int32) = 0 by decide), sum_l a b hk, lN_i, ssh32 (by omega), s29, s29, s28, s28, s28, s28]
  have d0 : decide (¬ (0 : Int32) = 0) = false := by decide
  have d1 : decide (¬ (1 : Int32) = 0) = true := by decide
  rw [d0, d1]
  have hc : lg_cmp (lN (sm a b k / 2 ^ 32)) 1 = 0 ↔ sm a b k / 2 ^ 32 = 1 := by
    rw [lgc_0]
    exact pk_lEQ (b := 1) (by omega) (by omega)
  have hv := ov_eq a b hk
  by_cases c : sm a b k / 2 ^ 32 = 1
  · rw [if_pos (hc.mpr c), decide_eq_true c]
    cases v : bt ((a ^^^ nI (sm a b k)) &&& (b ^^^ nI (sm a b k))) 31
    · rw [if_pos (hv.mpr v)]
    · rw [if_neg (fun q => by rw [hv.mp q] at v; exact absurd v (by decide))]
  · rw [if_neg (fun q => c (hc.mp q)), decide_eq_false c]
    cases v : bt ((a ^^^ nI (sm a b k)) &&& (b ^^^ nI (sm a b k))) 31
    · rw [if_pos (hv.mpr v)]
    · rw [if_neg (fun q => by rw [hv.mp q] at v; exact absurd v (by decide))]
theorem csum (S : CS) (a b : Int32) {k : Nat} (hk : k ≤ 1) : cProcessor_sum S a b (nI k) = (sI (sI S 33 (nI (sm a b k / 2 ^ 32))) 34 (ushr ((a ^^^ nI (sm a b k)) &&& (b ^^^ nI (sm a b k))) 31), nI (sm a b k)) := by
  have h := sm_lt a b hk
  unfold cProcessor_sum
  rw [sum_l a b hk, lN_i, ulsh32 (by omega), lN_i]
/-- both results of one sum -/
def Res (S M : CS) (c m0 m1 : CS × Int32) : Prop := ∃ S' y, c = (S', y) ∧ Fr [33, 34] [] [] S S' ∧ m0 = (M, y) ∧ m1 = (sI M 1 (fl4 (gI M 1) (bt y 31) (decide (y = 0)) (decide (¬ gI S' 33 = 0)) (decide (¬ gI S' 34 = 0))), y)
theorem res_sum (S M : CS) (a b : Int32) {k : Nat} (hk : k ≤ 1) : Res S M (cProcessor_sum S a b (nI k)) (m_result_b276 (m_summed M a b (nI k) 0).1 0 (m_summed M a b (nI k) 0).2 1) (m_result_b276 (m_summed M a b (nI k) 1).1 1 (m_summed M a b (nI k) 1).2 1) := by
  have h := sm_lt a b hk
  rw [summed_0 M a b hk, summed_1 M a b hk, csum S a b hk, b276_1]
  refine ⟨_, _, rfl, (Fr.sI _ _ _ _ _ _ (by decide)).tr (Fr.sI _ _ _ _ _ _ (by decide)), rfl, ?_⟩
  rw [if_neg (show ¬ (1 : Int32) = 0 by decide), sI_sI]
  have e1 : decide (sm a b k / 2 ^ 32 = 1) = decide (¬ nI (sm a b k / 2 ^ 32) = 0) := by
    rcases (by omega : sm a b k / 2 ^ 32 = 0 ∨ sm a b k / 2 ^ 32 = 1) with e | e <;> rw [e] <;> decide
  have e2 : bt ((a ^^^ nI (sm a b k)) &&& (b ^^^ nI (sm a b k))) 31 = decide (¬ ushr ((a ^^^ nI (sm a b k)) &&& (b ^^^ nI (sm a b k))) 31 = 0) := by
    rw [ush31]
    cases bt ((a ^^^ nI (sm a b k)) &&& (b ^^^ nI (sm a b k))) 31 <;> decide
  rw [e1, e2]
  rfl
theorem res_log {S M : CS} (h33 : gI S 33 = gI M 4) (h34 : decide (¬ gI S 34 = 0) = bt (gI M 1) 28) (y : Int32) : Res S M (S, y) (m_result_b276 M 0 y 0) (m_result_b276 M 1 y 0) := by
  rw [b276_1]
  refine ⟨S, y, rfl, Fr.rf _ _ _ _, rfl, ?_⟩
  rw [if_pos rfl, fl4_log, h33, h34]
theorem b248_2 (T : CS) (x y : Int32) : m_result_b248 T (nI 2) x y = m_result_b276 T x y 1 := by
  unfold m_result_b248 m_result_b259 m_result_b271
  rw [if_neg (show ¬ nI 2 ≤ 1 by decide), if_pos (show nI 2 < 8 by decide)]
theorem b248_3 (T : CS) (x y : Int32) : m_result_b248 T (nI 3) x y = m_result_b276 T x y 1 := by
  unfold m_result_b248 m_result_b259 m_result_b271
  rw [if_neg (show ¬ nI 3 ≤ 1 by decide), if_pos (show nI 3 < 8 by decide)]
theorem b248_4 (T : CS) (x y : Int32) : m_result_b248 T (nI 4) x y = m_result_b276 T x y 1 := by
  unfold m_result_b248 m_result_b259 m_result_b271
  rw [if_neg (show ¬ nI 4 ≤ 1 by decide), if_pos (show nI 4 < 8 by decide)]
theorem b248_5 (T : CS) (x y : Int32) : m_result_b248 T (nI 5) x y = m_result_b276 T x y 1 := by
  unfold m_result_b248 m_result_b259 m_result_b271
  rw [if_neg (show ¬ nI 5 ≤ 1 by decide), if_pos (show nI 5 < 8 by decide)]
theorem b248_6 (T : CS) (x y : Int32) : m_result_b248 T (nI 6) x y = m_result_b276 T x y 1 := by
  unfold m_result_b248 m_result_b259 m_result_b271
  rw [if_neg (show ¬ nI 6 ≤ 1 by decide), if_pos (show nI 6 < 8 by decide)]
theorem b248_7 (T : CS) (x y : Int32) : m_result_b248 T (nI 7) x y = m_result_b276 T x y 1 := by
  unfold m_result_b248 m_result_b259 m_result_b271
  rw [if_neg (show ¬ nI 7 ≤ 1 by decide), if_pos (show nI 7 < 8 by decide)]
theorem b248_10 (T : CS) (x y : Int32) : m_result_b248 T (nI 10) x y = m_result_b276 T x y 1 := by
  unfold m_result_b248 m_result_b259 m_result_b271
  rw [if_neg (show ¬ nI 10 ≤ 1 by decide), if_neg (show ¬ nI 10 < 8 by decide), if_pos (show nI 10 = 10 by decide)]
theorem b248_11 (T : CS) (x y : Int32) : m_result_b248 T (nI 11) x y = m_result_b276 T x y 1 := by
  unfold m_result_b248 m_result_b259 m_result_b271
  rw [if_neg (show ¬ nI 11 ≤ 1 by decide), if_neg (show ¬ nI 11 < 8 by decide), if_neg (show ¬ nI 11 = 10 by decide), if_pos (show nI 11 = 11 by decide)]
theorem w_2 (S : CS) (a b : Int32) : cProcessor_worked S (nI 2) a b = cProcessor_sum S a (b ^^^ -1) (nI 1) := by
  unfold cProcessor_worked cProcessor_worked_b84
  rw [if_neg (show ¬ nI 2 = 0 by decide), if_neg (show ¬ nI 2 = 1 by decide), if_pos (show nI 2 = 2 by decide)]
  rfl
theorem r_2 (M : CS) (a b x : Int32) : m_result M (nI 2) a b x = m_result_b276 (m_summed M a (b ^^^ -1) (nI 1) x).1 x (m_summed M a (b ^^^ -1) (nI 1) x).2 1 := by
  unfold m_result m_result_b84 m_result_b95
  rw [if_neg (show ¬ nI 2 = 0 by decide), if_neg (show ¬ nI 2 = 1 by decide), if_pos (show nI 2 = 2 by decide), b248_2]
  rfl
theorem w_3 (S : CS) (a b : Int32) : cProcessor_worked S (nI 3) a b = cProcessor_sum S b (a ^^^ -1) (nI 1) := by
  unfold cProcessor_worked 
  rw [if_neg (show ¬ nI 3 = 0 by decide), if_neg (show ¬ nI 3 = 1 by decide), if_neg (show ¬ nI 3 = 2 by decide), if_pos (show nI 3 = 3 by decide)]
  rfl
theorem r_3 (M : CS) (a b x : Int32) : m_result M (nI 3) a b x = m_result_b276 (m_summed M b (a ^^^ -1) (nI 1) x).1 x (m_summed M b (a ^^^ -1) (nI 1) x).2 1 := by
  unfold m_result m_result_b111
  rw [if_neg (show ¬ nI 3 = 0 by decide), if_neg (show ¬ nI 3 = 1 by decide), if_neg (show ¬ nI 3 = 2 by decide), if_pos (show nI 3 = 3 by decide), b248_3]
  rfl
theorem w_4 (S : CS) (a b : Int32) : cProcessor_worked S (nI 4) a b = cProcessor_sum S a b (nI 0) := by
  unfold cProcessor_worked cProcessor_worked_b104
  rw [if_neg (show ¬ nI 4 = 0 by decide), if_neg (show ¬ nI 4 = 1 by decide), if_neg (show ¬ nI 4 = 2 by decide), if_neg (show ¬ nI 4 = 3 by decide), if_pos (show nI 4 = 4 by decide)]
  rfl
theorem r_4 (M : CS) (a b x : Int32) : m_result M (nI 4) a b x = m_result_b276 (m_summed M a b (nI 0) x).1 x (m_summed M a b (nI 0) x).2 1 := by
  unfold m_result m_result_b116 m_result_b125
  rw [if_neg (show ¬ nI 4 = 0 by decide), if_neg (show ¬ nI 4 = 1 by decide), if_neg (show ¬ nI 4 = 2 by decide), if_neg (show ¬ nI 4 = 3 by decide), if_pos (show nI 4 = 4 by decide), b248_4]
  rfl
theorem w_10 (S : CS) (a b : Int32) : cProcessor_worked S (nI 10) a b = cProcessor_sum S a (b ^^^ -1) (nI 1) := by
  unfold cProcessor_worked cProcessor_worked_b84
  rw [if_neg (show ¬ nI 10 = 0 by decide), if_neg (show ¬ nI 10 = 1 by decide), if_neg (show ¬ nI 10 = 2 by decide), if_neg (show ¬ nI 10 = 3 by decide), if_neg (show ¬ nI 10 = 4 by decide), if_neg (show ¬ nI 10 = 5 by decide), if_neg (show ¬ nI 10 = 6 by decide), if_neg (show ¬ nI 10 = 7 by decide), if_neg (show ¬ nI 10 = 8 by decide), if_neg (show ¬ nI 10 = 9 by decide), if_pos (show nI 10 = 10 by decide)]
  rfl
theorem r_10 (M : CS) (a b x : Int32) : m_result M (nI 10) a b x = m_result_b276 (m_summed M a (b ^^^ -1) (nI 1) x).1 x (m_summed M a (b ^^^ -1) (nI 1) x).2 1 := by
  unfold m_result m_result_b84 m_result_b95
  rw [if_neg (show ¬ nI 10 = 0 by decide), if_neg (show ¬ nI 10 = 1 by decide), if_neg (show ¬ nI 10 = 2 by decide), if_neg (show ¬ nI 10 = 3 by decide), if_neg (show ¬ nI 10 = 4 by decide), if_neg (show ¬ nI 10 = 5 by decide), if_neg (show ¬ nI 10 = 6 by decide), if_neg (show ¬ nI 10 = 7 by decide), if_neg (show ¬ nI 10 = 8 by decide), if_neg (show ¬ nI 10 = 9 by decide), if_pos (show nI 10 = 10 by decide), b248_10]
  rfl
theorem w_11 (S : CS) (a b : Int32) : cProcessor_worked S (nI 11) a b = cProcessor_sum S a b (nI 0) := by
  unfold cProcessor_worked cProcessor_worked_b104
  rw [if_neg (show ¬ nI 11 = 0 by decide), if_neg (show ¬ nI 11 = 1 by decide), if_neg (show ¬ nI 11 = 2 by decide), if_neg (show ¬ nI 11 = 3 by decide), if_neg (show ¬ nI 11 = 4 by decide), if_neg (show ¬ nI 11 = 5 by decide), if_neg (show ¬ nI 11 = 6 by decide), if_neg (show ¬ nI 11 = 7 by decide), if_neg (show ¬ nI 11 = 8 by decide), if_neg (show ¬ nI 11 = 9 by decide), if_neg (show ¬ nI 11 = 10 by decide), if_pos (show nI 11 = 11 by decide)]
  rfl
theorem r_11 (M : CS) (a b x : Int32) : m_result M (nI 11) a b x = m_result_b276 (m_summed M a b (nI 0) x).1 x (m_summed M a b (nI 0) x).2 1 := by
  unfold m_result m_result_b116 m_result_b125
  rw [if_neg (show ¬ nI 11 = 0 by decide), if_neg (show ¬ nI 11 = 1 by decide), if_neg (show ¬ nI 11 = 2 by decide), if_neg (show ¬ nI 11 = 3 by decide), if_neg (show ¬ nI 11 = 4 by decide), if_neg (show ¬ nI 11 = 5 by decide), if_neg (show ¬ nI 11 = 6 by decide), if_neg (show ¬ nI 11 = 7 by decide), if_neg (show ¬ nI 11 = 8 by decide), if_neg (show ¬ nI 11 = 9 by decide), if_neg (show ¬ nI 11 = 10 by decide), if_pos (show nI 11 = 11 by decide), b248_11]
  rfl
theorem w_5 (S : CS) (a b : Int32) {k : Nat} (ek : cRegisters_carry S = nI k) : cProcessor_worked S (nI 5) a b = cProcessor_sum S a b (nI k) := by
  unfold cProcessor_worked
  rw [if_neg (show ¬ nI 5 = 0 by decide), if_neg (show ¬ nI 5 = 1 by decide), if_neg (show ¬ nI 5 = 2 by decide), if_neg (show ¬ nI 5 = 3 by decide), if_neg (show ¬ nI 5 = 4 by decide), if_pos (show nI 5 = 5 by decide), ek]
theorem r_5 (M : CS) (a b x : Int32) {k : Nat} (hk : k ≤ 1) (ek : m_is M 29 = nI k) : m_result M (nI 5) a b x = m_result_b276 (m_summed M a b (nI k) x).1 x (m_summed M a b (nI k) x).2 1 := by
  unfold m_result m_result_b143 m_result_b148
  rw [if_neg (show ¬ nI 5 = 0 by decide), if_neg (show ¬ nI 5 = 1 by decide), if_neg (show ¬ nI 5 = 2 by decide), if_neg (show ¬ nI 5 = 3 by decide), if_neg (show ¬ nI 5 = 4 by decide), if_pos (show nI 5 = 5 by decide), ek]
  rcases (by omega : k = 0 ∨ k = 1) with rfl | rfl
  · rw [if_pos (show nI 0 = 0 by decide), b248_5]
    rfl
  · rw [if_neg (show ¬ nI 1 = 0 by decide), b248_5]
    rfl
theorem w_6 (S : CS) (a b : Int32) {k : Nat} (ek : cRegisters_carry S = nI k) : cProcessor_worked S (nI 6) a b = cProcessor_sum S a (b ^^^ -1) (nI k) := by
  unfold cProcessor_worked
  rw [if_neg (show ¬ nI 6 = 0 by decide), if_neg (show ¬ nI 6 = 1 by decide), if_neg (show ¬ nI 6 = 2 by decide), if_neg (show ¬ nI 6 = 3 by decide), if_neg (show ¬ nI 6 = 4 by decide), if_neg (show ¬ nI 6 = 5 by decide), if_pos (show nI 6 = 6 by decide), ek]
theorem r_6 (M : CS) (a b x : Int32) {k : Nat} (hk : k ≤ 1) (ek : m_is M 29 = nI k) : m_result M (nI 6) a b x = m_result_b276 (m_summed M a (b ^^^ -1) (nI k) x).1 x (m_summed M a (b ^^^ -1) (nI k) x).2 1 := by
  unfold m_result m_result_b168 m_result_b173
  rw [if_neg (show ¬ nI 6 = 0 by decide), if_neg (show ¬ nI 6 = 1 by decide), if_neg (show ¬ nI 6 = 2 by decide), if_neg (show ¬ nI 6 = 3 by decide), if_neg (show ¬ nI 6 = 4 by decide), if_neg (show ¬ nI 6 = 5 by decide), if_pos (show nI 6 = 6 by decide), ek]
  rcases (by omega : k = 0 ∨ k = 1) with rfl | rfl
  · rw [if_pos (show nI 0 = 0 by decide), b248_6]
    rfl
  · rw [if_neg (show ¬ nI 1 = 0 by decide), b248_6]
    rfl
theorem w_7 (S : CS) (a b : Int32) {k : Nat} (ek : cRegisters_carry S = nI k) : cProcessor_worked S (nI 7) a b = cProcessor_sum S b (a ^^^ -1) (nI k) := by
  unfold cProcessor_worked
  rw [if_neg (show ¬ nI 7 = 0 by decide), if_neg (show ¬ nI 7 = 1 by decide), if_neg (show ¬ nI 7 = 2 by decide), if_neg (show ¬ nI 7 = 3 by decide), if_neg (show ¬ nI 7 = 4 by decide), if_neg (show ¬ nI 7 = 5 by decide), if_neg (show ¬ nI 7 = 6 by decide), if_pos (show nI 7 = 7 by decide), ek]
theorem r_7 (M : CS) (a b x : Int32) {k : Nat} (hk : k ≤ 1) (ek : m_is M 29 = nI k) : m_result M (nI 7) a b x = m_result_b276 (m_summed M b (a ^^^ -1) (nI k) x).1 x (m_summed M b (a ^^^ -1) (nI k) x).2 1 := by
  unfold m_result m_result_b193 m_result_b198
  rw [if_neg (show ¬ nI 7 = 0 by decide), if_neg (show ¬ nI 7 = 1 by decide), if_neg (show ¬ nI 7 = 2 by decide), if_neg (show ¬ nI 7 = 3 by decide), if_neg (show ¬ nI 7 = 4 by decide), if_neg (show ¬ nI 7 = 5 by decide), if_neg (show ¬ nI 7 = 6 by decide), if_pos (show nI 7 = 7 by decide), ek]
  rcases (by omega : k = 0 ∨ k = 1) with rfl | rfl
  · rw [if_pos (show nI 0 = 0 by decide), b248_7]
    rfl
  · rw [if_neg (show ¬ nI 1 = 0 by decide), b248_7]
    rfl
theorem w_0 (S : CS) (a b : Int32) : cProcessor_worked S (nI 0) a b = (S, a &&& b) := by
  unfold cProcessor_worked cProcessor_worked_b76
  rw [if_pos (show nI 0 = 0 by decide)]
theorem r_0 (M : CS) (a b x : Int32) : m_result M (nI 0) a b x = m_result_b276 M x (a &&& b) 0 := by
  unfold m_result m_result_b203 m_result_b248 m_result_b259
  rw [if_pos (show nI 0 = 0 by decide), if_pos (show nI 0 ≤ 1 by decide), if_neg (show ¬ nI 0 = 10 by decide), if_neg (show ¬ nI 0 = 11 by decide)]
theorem w_1 (S : CS) (a b : Int32) : cProcessor_worked S (nI 1) a b = (S, a ^^^ b) := by
  unfold cProcessor_worked cProcessor_worked_b80
  rw [if_neg (show ¬ nI 1 = 0 by decide), if_pos (show nI 1 = 1 by decide)]
theorem r_1 (M : CS) (a b x : Int32) : m_result M (nI 1) a b x = m_result_b276 M x (a ^^^ b) 0 := by
  unfold m_result m_result_b211 m_result_b248 m_result_b259
  rw [if_neg (show ¬ nI 1 = 0 by decide), if_pos (show nI 1 = 1 by decide), if_pos (show nI 1 ≤ 1 by decide), if_neg (show ¬ nI 1 = 10 by decide), if_neg (show ¬ nI 1 = 11 by decide)]
theorem w_8 (S : CS) (a b : Int32) : cProcessor_worked S (nI 8) a b = (S, a &&& b) := by
  unfold cProcessor_worked cProcessor_worked_b76
  rw [if_neg (show ¬ nI 8 = 0 by decide), if_neg (show ¬ nI 8 = 1 by decide), if_neg (show ¬ nI 8 = 2 by decide), if_neg (show ¬ nI 8 = 3 by decide), if_neg (show ¬ nI 8 = 4 by decide), if_neg (show ¬ nI 8 = 5 by decide), if_neg (show ¬ nI 8 = 6 by decide), if_neg (show ¬ nI 8 = 7 by decide), if_pos (show nI 8 = 8 by decide)]
theorem r_8 (M : CS) (a b x : Int32) : m_result M (nI 8) a b x = m_result_b276 M x (a &&& b) 0 := by
  unfold m_result m_result_b203 m_result_b248 m_result_b259
  rw [if_neg (show ¬ nI 8 = 0 by decide), if_neg (show ¬ nI 8 = 1 by decide), if_neg (show ¬ nI 8 = 2 by decide), if_neg (show ¬ nI 8 = 3 by decide), if_neg (show ¬ nI 8 = 4 by decide), if_neg (show ¬ nI 8 = 5 by decide), if_neg (show ¬ nI 8 = 6 by decide), if_neg (show ¬ nI 8 = 7 by decide), if_pos (show nI 8 = 8 by decide), if_neg (show ¬ nI 8 ≤ 1 by decide), if_neg (show ¬ nI 8 < 8 by decide), if_neg (show ¬ nI 8 = 10 by decide), if_neg (show ¬ nI 8 = 11 by decide)]
theorem w_9 (S : CS) (a b : Int32) : cProcessor_worked S (nI 9) a b = (S, a ^^^ b) := by
  unfold cProcessor_worked cProcessor_worked_b80
  rw [if_neg (show ¬ nI 9 = 0 by decide), if_neg (show ¬ nI 9 = 1 by decide), if_neg (show ¬ nI 9 = 2 by decide), if_neg (show ¬ nI 9 = 3 by decide), if_neg (show ¬ nI 9 = 4 by decide), if_neg (show ¬ nI 9 = 5 by decide), if_neg (show ¬ nI 9 = 6 by decide), if_neg (show ¬ nI 9 = 7 by decide), if_neg (show ¬ nI 9 = 8 by decide), if_pos (show nI 9 = 9 by decide)]
theorem r_9 (M : CS) (a b x : Int32) : m_result M (nI 9) a b x = m_result_b276 M x (a ^^^ b) 0 := by
  unfold m_result m_result_b211 m_result_b248 m_result_b259
  rw [if_neg (show ¬ nI 9 = 0 by decide), if_neg (show ¬ nI 9 = 1 by decide), if_neg (show ¬ nI 9 = 2 by decide), if_neg (show ¬ nI 9 = 3 by decide), if_neg (show ¬ nI 9 = 4 by decide), if_neg (show ¬ nI 9 = 5 by decide), if_neg (show ¬ nI 9 = 6 by decide), if_neg (show ¬ nI 9 = 7 by decide), if_neg (show ¬ nI 9 = 8 by decide), if_pos (show nI 9 = 9 by decide), if_neg (show ¬ nI 9 ≤ 1 by decide), if_neg (show ¬ nI 9 < 8 by decide), if_neg (show ¬ nI 9 = 10 by decide), if_neg (show ¬ nI 9 = 11 by decide)]
theorem w_12 (S : CS) (a b : Int32) : cProcessor_worked S (nI 12) a b = (S, a ||| b) := by
  unfold cProcessor_worked 
  rw [if_neg (show ¬ nI 12 = 0 by decide), if_neg (show ¬ nI 12 = 1 by decide), if_neg (show ¬ nI 12 = 2 by decide), if_neg (show ¬ nI 12 = 3 by decide), if_neg (show ¬ nI 12 = 4 by decide), if_neg (show ¬ nI 12 = 5 by decide), if_neg (show ¬ nI 12 = 6 by decide), if_neg (show ¬ nI 12 = 7 by decide), if_neg (show ¬ nI 12 = 8 by decide), if_neg (show ¬ nI 12 = 9 by decide), if_neg (show ¬ nI 12 = 10 by decide), if_neg (show ¬ nI 12 = 11 by decide), if_pos (show nI 12 = 12 by decide)]
theorem r_12 (M : CS) (a b x : Int32) : m_result M (nI 12) a b x = m_result_b276 M x (a ||| b) 0 := by
  unfold m_result  m_result_b248 m_result_b259
  rw [if_neg (show ¬ nI 12 = 0 by decide), if_neg (show ¬ nI 12 = 1 by decide), if_neg (show ¬ nI 12 = 2 by decide), if_neg (show ¬ nI 12 = 3 by decide), if_neg (show ¬ nI 12 = 4 by decide), if_neg (show ¬ nI 12 = 5 by decide), if_neg (show ¬ nI 12 = 6 by decide), if_neg (show ¬ nI 12 = 7 by decide), if_neg (show ¬ nI 12 = 8 by decide), if_neg (show ¬ nI 12 = 9 by decide), if_neg (show ¬ nI 12 = 10 by decide), if_neg (show ¬ nI 12 = 11 by decide), if_pos (show nI 12 = 12 by decide), if_neg (show ¬ nI 12 ≤ 1 by decide), if_neg (show ¬ nI 12 < 8 by decide), if_neg (show ¬ nI 12 = 10 by decide), if_neg (show ¬ nI 12 = 11 by decide)]
theorem w_13 (S : CS) (a b : Int32) : cProcessor_worked S (nI 13) a b = (S, b) := by
  unfold cProcessor_worked 
  rw [if_neg (show ¬ nI 13 = 0 by decide), if_neg (show ¬ nI 13 = 1 by decide), if_neg (show ¬ nI 13 = 2 by decide), if_neg (show ¬ nI 13 = 3 by decide), if_neg (show ¬ nI 13 = 4 by decide), if_neg (show ¬ nI 13 = 5 by decide), if_neg (show ¬ nI 13 = 6 by decide), if_neg (show ¬ nI 13 = 7 by decide), if_neg (show ¬ nI 13 = 8 by decide), if_neg (show ¬ nI 13 = 9 by decide), if_neg (show ¬ nI 13 = 10 by decide), if_neg (show ¬ nI 13 = 11 by decide), if_neg (show ¬ nI 13 = 12 by decide), if_pos (show nI 13 = 13 by decide)]
theorem r_13 (M : CS) (a b x : Int32) : m_result M (nI 13) a b x = m_result_b276 M x (b) 0 := by
  unfold m_result  m_result_b248 m_result_b259
  rw [if_neg (show ¬ nI 13 = 0 by decide), if_neg (show ¬ nI 13 = 1 by decide), if_neg (show ¬ nI 13 = 2 by decide), if_neg (show ¬ nI 13 = 3 by decide), if_neg (show ¬ nI 13 = 4 by decide), if_neg (show ¬ nI 13 = 5 by decide), if_neg (show ¬ nI 13 = 6 by decide), if_neg (show ¬ nI 13 = 7 by decide), if_neg (show ¬ nI 13 = 8 by decide), if_neg (show ¬ nI 13 = 9 by decide), if_neg (show ¬ nI 13 = 10 by decide), if_neg (show ¬ nI 13 = 11 by decide), if_neg (show ¬ nI 13 = 12 by decide), if_pos (show nI 13 = 13 by decide), if_neg (show ¬ nI 13 ≤ 1 by decide), if_neg (show ¬ nI 13 < 8 by decide), if_neg (show ¬ nI 13 = 10 by decide), if_neg (show ¬ nI 13 = 11 by decide)]
theorem w_14 (S : CS) (a b : Int32) : cProcessor_worked S (nI 14) a b = (S, a &&& (b ^^^ -1)) := by
  unfold cProcessor_worked 
  rw [if_neg (show ¬ nI 14 = 0 by decide), if_neg (show ¬ nI 14 = 1 by decide), if_neg (show ¬ nI 14 = 2 by decide), if_neg (show ¬ nI 14 = 3 by decide), if_neg (show ¬ nI 14 = 4 by decide), if_neg (show ¬ nI 14 = 5 by decide), if_neg (show ¬ nI 14 = 6 by decide), if_neg (show ¬ nI 14 = 7 by decide), if_neg (show ¬ nI 14 = 8 by decide), if_neg (show ¬ nI 14 = 9 by decide), if_neg (show ¬ nI 14 = 10 by decide), if_neg (show ¬ nI 14 = 11 by decide), if_neg (show ¬ nI 14 = 12 by decide), if_neg (show ¬ nI 14 = 13 by decide), if_pos (show nI 14 = 14 by decide)]
theorem r_14 (M : CS) (a b x : Int32) : m_result M (nI 14) a b x = m_result_b276 M x (a &&& (b ^^^ -1)) 0 := by
  unfold m_result  m_result_b248 m_result_b259
  rw [if_neg (show ¬ nI 14 = 0 by decide), if_neg (show ¬ nI 14 = 1 by decide), if_neg (show ¬ nI 14 = 2 by decide), if_neg (show ¬ nI 14 = 3 by decide), if_neg (show ¬ nI 14 = 4 by decide), if_neg (show ¬ nI 14 = 5 by decide), if_neg (show ¬ nI 14 = 6 by decide), if_neg (show ¬ nI 14 = 7 by decide), if_neg (show ¬ nI 14 = 8 by decide), if_neg (show ¬ nI 14 = 9 by decide), if_neg (show ¬ nI 14 = 10 by decide), if_neg (show ¬ nI 14 = 11 by decide), if_neg (show ¬ nI 14 = 12 by decide), if_neg (show ¬ nI 14 = 13 by decide), if_pos (show nI 14 = 14 by decide), if_neg (show ¬ nI 14 ≤ 1 by decide), if_neg (show ¬ nI 14 < 8 by decide), if_neg (show ¬ nI 14 = 10 by decide), if_neg (show ¬ nI 14 = 11 by decide)]
theorem w_15 (S : CS) (a b : Int32) : cProcessor_worked S (nI 15) a b = (S, b ^^^ -1) := by
  unfold cProcessor_worked 
  rw [if_neg (show ¬ nI 15 = 0 by decide), if_neg (show ¬ nI 15 = 1 by decide), if_neg (show ¬ nI 15 = 2 by decide), if_neg (show ¬ nI 15 = 3 by decide), if_neg (show ¬ nI 15 = 4 by decide), if_neg (show ¬ nI 15 = 5 by decide), if_neg (show ¬ nI 15 = 6 by decide), if_neg (show ¬ nI 15 = 7 by decide), if_neg (show ¬ nI 15 = 8 by decide), if_neg (show ¬ nI 15 = 9 by decide), if_neg (show ¬ nI 15 = 10 by decide), if_neg (show ¬ nI 15 = 11 by decide), if_neg (show ¬ nI 15 = 12 by decide), if_neg (show ¬ nI 15 = 13 by decide), if_neg (show ¬ nI 15 = 14 by decide)]
theorem r_15 (M : CS) (a b x : Int32) : m_result M (nI 15) a b x = m_result_b276 M x (b ^^^ -1) 0 := by
  unfold m_result  m_result_b248 m_result_b259
  rw [if_neg (show ¬ nI 15 = 0 by decide), if_neg (show ¬ nI 15 = 1 by decide), if_neg (show ¬ nI 15 = 2 by decide), if_neg (show ¬ nI 15 = 3 by decide), if_neg (show ¬ nI 15 = 4 by decide), if_neg (show ¬ nI 15 = 5 by decide), if_neg (show ¬ nI 15 = 6 by decide), if_neg (show ¬ nI 15 = 7 by decide), if_neg (show ¬ nI 15 = 8 by decide), if_neg (show ¬ nI 15 = 9 by decide), if_neg (show ¬ nI 15 = 10 by decide), if_neg (show ¬ nI 15 = 11 by decide), if_neg (show ¬ nI 15 = 12 by decide), if_neg (show ¬ nI 15 = 13 by decide), if_neg (show ¬ nI 15 = 14 by decide), if_neg (show ¬ nI 15 ≤ 1 by decide), if_neg (show ¬ nI 15 < 8 by decide), if_neg (show ¬ nI 15 = 10 by decide), if_neg (show ¬ nI 15 = 11 by decide)]
theorem res_eq {S M : CS} (hs : SG S M) (h33 : gI S 33 = gI M 4) (h34 : decide (¬ gI S 34 = 0) = bt (gI M 1) 28) {op : Nat} (hop : op < 16) (a b : Int32) : Res S M (cProcessor_worked S (nI op) a b) (m_result M (nI op) a b 0) (m_result M (nI op) a b 1) := by
  obtain ⟨k, hk, ek⟩ : ∃ k, k ≤ 1 ∧ m_is M 29 = nI k := by
    rcases m_is_01 M 29 (by decide) with e | e
    · exact ⟨0, by omega, e⟩
    · exact ⟨1, by omega, e⟩
  have eC : cRegisters_carry S = nI k := (sg_carry hs).trans ek
  rcases (by omega : op = 0 ∨ op = 1 ∨ op = 2 ∨ op = 3 ∨ op = 4 ∨ op = 5 ∨ op = 6 ∨ op = 7 ∨ op = 8 ∨ op = 9 ∨ op = 10 ∨ op = 11 ∨ op = 12 ∨ op = 13 ∨ op = 14 ∨ op = 15) with rfl | rfl | rfl | rfl | rfl | rfl | rfl | rfl | rfl | rfl | rfl | rfl | rfl | rfl | rfl | rfl
  · rw [w_0, r_0, r_0]; exact res_log h33 h34 _
  · rw [w_1, r_1, r_1]; exact res_log h33 h34 _
  · rw [w_2, r_2, r_2]; exact res_sum S M _ _ (k := 1) (by omega)
  · rw [w_3, r_3, r_3]; exact res_sum S M _ _ (k := 1) (by omega)
  · rw [w_4, r_4, r_4]; exact res_sum S M _ _ (k := 0) (by omega)
  · rw [w_5 S a b eC, r_5 M a b 0 hk ek, r_5 M a b 1 hk ek]; exact res_sum S M _ _ hk
  · rw [w_6 S a b eC, r_6 M a b 0 hk ek, r_6 M a b 1 hk ek]; exact res_sum S M _ _ hk
  · rw [w_7 S a b eC, r_7 M a b 0 hk ek, r_7 M a b 1 hk ek]; exact res_sum S M _ _ hk
  · rw [w_8, r_8, r_8]; exact res_log h33 h34 _
  · rw [w_9, r_9, r_9]; exact res_log h33 h34 _
  · rw [w_10, r_10, r_10]; exact res_sum S M _ _ (k := 1) (by omega)
  · rw [w_11, r_11, r_11]; exact res_sum S M _ _ (k := 0) (by omega)
  · rw [w_12, r_12, r_12]; exact res_log h33 h34 _
  · rw [w_13, r_13, r_13]; exact res_log h33 h34 _
  · rw [w_14, r_14, r_14]; exact res_log h33 h34 _
  · rw [w_15, r_15, r_15]; exact res_log h33 h34 _
