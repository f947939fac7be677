/-! PURE 13: the devices of the class go on -/
theorem Fr_cst0 (st : CS) : Fr [2, 19, 22] [] [] st (cst0 st) := by
  have a : Fr [2, 19, 22] [] [] st (cTimer_countsDown0 st).1 := by
    unfold cTimer_countsDown0 cTimer_countsDown0_b26
    repeat' split
    all_goals first
      | exact Fr.rf _ _ _ _
      | exact Fr.sI _ _ _ _ _ _ (by decide)
      | exact (Fr.sI _ _ _ _ _ _ (by decide)).tr (Fr.sI _ _ _ _ _ _ (by decide))
  unfold cst0
  split
  · exact a
  · exact a.tr (Fr.sI _ _ _ _ _ _ (by decide))
theorem Fr_cst1 (st : CS) : Fr [2, 19, 22] [] [] st (cst1 st) := by
  have a : Fr [2, 19, 22] [] [] st (cTimer_countsDown1 st).1 := by
    unfold cTimer_countsDown1 cTimer_countsDown1_b26
    repeat' split
    all_goals first
      | exact Fr.rf _ _ _ _
      | exact Fr.sI _ _ _ _ _ _ (by decide)
      | exact (Fr.sI _ _ _ _ _ _ (by decide)).tr (Fr.sI _ _ _ _ _ _ (by decide))
  unfold cst1
  split
  · exact a
  · exact a.tr (Fr.sI _ _ _ _ _ _ (by decide))
theorem Fr_cdN (k : Nat) (st : CS) : Fr [2, 19, 22] [] [] st (cdN k st) := by
  induction k with
  | zero => exact Fr.rf _ _ _ _
  | succ k ih =>
    refine ih.tr ?_
    show Fr [2, 19, 22] [] [] (cdN k st) (cController_timersCountDown (cdN k st))
    rw [tcd_is]
    exact (Fr_cst0 _).tr (Fr_cst1 _)
theorem cd_loop : ∀ (k : Nat) (S : CS), k < 2 ^ 31 → cController_goOn_b17 (k + 1) S (nI k) = some (sI (cdN k S) 17 (gI (cdN k S) 17 &&& 3)) := by
  intro k
  induction k with
  | zero =>
    intro S _
    unfold cController_goOn_b17
    rw [if_pos (show nI 0 ≤ 0 by decide)]
    rfl
  | succ k ih =>
    intro S hk
    unfold cController_goOn_b17 cController_goOn_b25
    rw [if_neg (nI_nle (n := k + 1) (by omega) hk)]
    have e : nI (k + 1) + (-1 : Int32) = nI k := by
      rw [nI_succ, Int32.add_assoc]
      show nI k + 0 = nI k
      exact Int32.add_zero _
    rw [e, ih _ (by omega), cdN_in]
theorem sr2 : ∀ m, m < 64 → nI m >>> ((2 : Int32) &&& 31) = nI (m / 4) := by decide +kernel
theorem ctl_go (S : CS) {a t : Nat} (ha : a < 4) (ht : t ≤ 40) (e : gI S 17 = nI a) : cController_goOn S (nI t) = sI (cdN ((a + t) / 4) (sI S 17 (nI (a + t)))) 17 (nI ((a + t) % 4)) := by
  unfold cController_goOn cController_goOn_b17t
  rw [e, nI_add, sr2 (a + t) (by omega), nI_clamp (by omega), cd_loop _ _ (by omega)]
  show sI _ 17 (gI (cdN _ _) 17 &&& 3) = _
  rw [(Fr_cdN _ _).1 17 (by decide)]
  show sI _ 17 (nI (a + t) &&& 3) = _
  rw [pk_andN (by omega) 2 rfl]
theorem ser_go (S : CS) {x t : Nat} (hx : x < 257) (ht : t < 2 ^ 31) (e : gI S 9 = nI x) : Fr [3, 9] [] [] S (cSerial_goOn S (nI t)) ∧ gI (cSerial_goOn S (nI t)) 9 = nI (x - t) ∧ (x ≤ t → gI (cSerial_goOn S (nI t)) 3 = gI S 3 ||| 64) ∧ (¬ x ≤ t → gI (cSerial_goOn S (nI t)) 3 = gI S 3) := by
  unfold cSerial_goOn
  rw [e]
  by_cases c : x ≤ t
  · rw [if_pos ((nI_leI (by omega) ht).mpr c)]
    refine ⟨(Fr.sI _ _ _ _ _ _ (by decide)).tr (Fr.sI _ _ _ _ _ _ (by decide)), ?_, fun _ => rfl, fun q => absurd c q⟩
    rw [show x - t = 0 by omega]
    rfl
  · rw [if_neg (fun q => c ((nI_leI (by omega) ht).mp q))]
    exact ⟨Fr.sI _ _ _ _ _ _ (by decide), pk_sub (by omega), fun q => absurd q c, fun _ => rfl⟩
theorem dsk_go (S : CS) {d t s p : Nat} (hd : d < 5001) (ht : t < 2 ^ 31) (e : gI S 16 = nI d) (hs : s < 16) (hp : p < 16) (e13 : d ≠ 0 → gI S 13 = nI s) (e14 : d ≠ 0 → gI S 14 = nI p) : Fr [3, 4, 16] [3] [0, 5] S (cDisk_goOn S (nI t)) ∧ gI (cDisk_goOn S (nI t)) 16 = nI (d - t) ∧
    (¬ (1 ≤ d ∧ d ≤ t) → gI (cDisk_goOn S (nI t)) 3 = gI S 3 ∧ gI (cDisk_goOn S (nI t)) 4 = gI S 4 ∧ gL (cDisk_goOn S (nI t)) 3 = gL S 3 ∧ gA (cDisk_goOn S (nI t)) 0 = gA S 0 ∧ gA (cDisk_goOn S (nI t)) 5 = gA S 5) ∧
    ((1 ≤ d ∧ d ≤ t) → gI (cDisk_goOn S (nI t)) 3 = gI S 3 ||| 8 ∧ gI (cDisk_goOn S (nI t)) 4 = gI S 4 ||| 1 ∧ gL (cDisk_goOn S (nI t)) 3 = gL S 3 + 1024 ∧
      gA (cDisk_goOn S (nI t)) 0 = (if gI S 15 = 0 then gA S 0 else va_cpy (gA S 5) (gA S 0) (1024 * s) (1024 * p) 1024) ∧ gA (cDisk_goOn S (nI t)) 5 = (if gI S 15 = 0 then va_cpy (gA S 0) (gA S 5) (1024 * p) (1024 * s) 1024 else gA S 5)) := by
  unfold cDisk_goOn cDisk_goOn_b39
  rw [e]
  by_cases c0 : d = 0
  · subst c0
    rw [if_pos (show nI 0 = 0 from rfl)]
    refine ⟨Fr.rf _ _ _ _, ?_, fun _ => ⟨rfl, rfl, rfl, rfl, rfl⟩, fun q => by omega⟩
    rw [e, Nat.zero_sub]
  · rw [if_neg (nI_ne0 (n := d) (by omega) (by omega))]
    by_cases c : d ≤ t
    · rw [if_pos ((nI_leI (by omega) ht).mpr c)]
      have x1 : ((nI s &&& 15) * 1024).toNatClampNeg = 1024 * s := by
        rw [nand 4 rfl (by omega) (by omega), show nI s * 1024 = nI (s * 1024) from pk_mul s 1024, nI_clamp (by omega), Nat.mul_comm]
      have x2 : ((nI p &&& 15) * 1024).toNatClampNeg = 1024 * p := by
        rw [nand 4 rfl (by omega) (by omega), show nI p * 1024 = nI (p * 1024) from pk_mul p 1024, nI_clamp (by omega), Nat.mul_comm]
      have q13 : gI (cLines_diskIsReady (sI S 16 0)) 13 = nI s := e13 c0
      have q14 : gI (cLines_diskIsReady (sI S 16 0)) 14 = nI p := e14 c0
      unfold cDisk_copy cDisk_copy_b66
      rw [q13, q14, x1, x2, show (1024 : Int32).toNatClampNeg = 1024 from rfl, show d - t = 0 by omega]
      by_cases z : gI S 15 = 0
      · have z' : gI (cLines_diskIsReady (sI S 16 0)) 15 = 0 := z
        rw [if_pos z', if_pos z, if_pos z]
        refine ⟨?_, rfl, fun q => absurd ⟨by omega, c⟩ q, fun _ => ⟨rfl, rfl, rfl, rfl, rfl⟩⟩
        exact (((((Fr.sI _ _ _ _ _ _ (by decide)).tr (Fr.sI _ _ _ _ _ _ (by decide))).tr (Fr.sI _ _ _ _ _ _ (by decide)))).tr (Fr.sA _ _ _ _ _ _ (by decide))).tr (Fr.sL _ _ _ _ _ _ (by decide))
      · have z' : ¬ gI (cLines_diskIsReady (sI S 16 0)) 15 = 0 := z
        rw [if_neg z', if_neg z, if_neg z]
        refine ⟨?_, rfl, fun q => absurd ⟨by omega, c⟩ q, fun _ => ⟨rfl, rfl, rfl, rfl, rfl⟩⟩
        exact (((((Fr.sI _ _ _ _ _ _ (by decide)).tr (Fr.sI _ _ _ _ _ _ (by decide))).tr (Fr.sI _ _ _ _ _ _ (by decide)))).tr (Fr.sA _ _ _ _ _ _ (by decide))).tr (Fr.sL _ _ _ _ _ _ (by decide))
    · rw [if_neg (fun q => c ((nI_leI (by omega) ht).mp q))]
      exact ⟨Fr.sI _ _ _ _ _ _ (by decide), pk_sub (by omega), fun _ => ⟨rfl, rfl, rfl, rfl, rfl⟩, fun q => absurd q.2 c⟩
theorem scr_go {S mt : CS} {f t : Nat} {g : Nat → Int32} (e : gI S 30 = nI f) (hf : f ≤ 20000) (ht : t < 20000) (hP : f ≤ t → ∀ S' : CS, gA S' 0 = gA S 0 → RScr S' mt → ∃ f', pnt S' = sA S' 7 f' ∧ ∀ j, j < 2048 → f' j = g j) (hS : RScr S mt) : Fr [2, 30] [4] [7] S (cScreen_goOn S (nI t)) ∧ gI (cScreen_goOn S (nI t)) 30 = nI (if f ≤ t then f + 20000 - t else f - t) ∧
    (¬ f ≤ t → gI (cScreen_goOn S (nI t)) 2 = gI S 2 ∧ gL (cScreen_goOn S (nI t)) 4 = gL S 4 ∧ gA (cScreen_goOn S (nI t)) 7 = gA S 7) ∧
    (f ≤ t → gI (cScreen_goOn S (nI t)) 2 = gI S 2 ||| 8 ∧ gL (cScreen_goOn S (nI t)) 4 = gL S 4 + 1 ∧ ∀ j, j < 2048 → gA (cScreen_goOn S (nI t)) 7 j = g j) := by
  unfold cScreen_goOn
  rw [e]
  by_cases c : f ≤ t
  · have c1 : nI f - nI t ≤ 0 := by
      rw [i_le, Int32.toInt_sub, nI_toInt (by omega), nI_toInt (by omega)]
      show _ ≤ (0 : Int)
      rw [Int.bmod_eq_of_le (by omega) (by omega)]
      omega
    have c2 : nI f - nI t + 20000 = nI (f + 20000 - t) := by
      rw [← pk_sub (by omega), ← nI_add, Int32.sub_eq_add_neg, Int32.sub_eq_add_neg, Int32.add_assoc, Int32.add_comm (-nI t), ← Int32.add_assoc]
      rfl
    rw [if_pos c1, if_pos c, c2]
    have hS' : RScr (sL (sI S 30 (nI (f + 20000 - t))) 4 (gL S 4 + 1)) mt := hS
    obtain ⟨f', p1, p2⟩ := hP c (sL (sI S 30 (nI (f + 20000 - t))) 4 (gL S 4 + 1)) rfl hS'
    have key : (if gI S 29 = 0 then cScreen_goOn_b58 (cArrays_fill17 (sL (sI S 30 (nI (f + 20000 - t))) 4 (gL S 4 + 1)) (gI S 24)) else cScreen_goOn_b65 (cScreen_makeFromMemory (sL (sI S 30 (nI (f + 20000 - t))) 4 (gL S 4 + 1)))) = cScreen_goOn_b65 (sA (sL (sI S 30 (nI (f + 20000 - t))) 4 (gL S 4 + 1)) 7 f') := by
      rw [← p1]
      unfold pnt
      by_cases z : gI S 29 = 0
      · have z' : gI (sL (sI S 30 (nI (f + 20000 - t))) 4 (gL S 4 + 1)) 29 = 0 := z
        rw [if_pos z, if_pos z']
        rfl
      · have z' : ¬ gI (sL (sI S 30 (nI (f + 20000 - t))) 4 (gL S 4 + 1)) 29 = 0 := z
        rw [if_neg z, if_neg z']
    rw [key]
    exact ⟨(((Fr.sI _ _ _ _ _ _ (by decide)).tr (Fr.sL _ _ _ _ _ _ (by decide))).tr (Fr.sA _ _ _ _ _ _ (by decide))).tr (Fr.sI _ _ _ _ _ _ (by decide)), rfl, fun q => absurd c q, fun _ => ⟨rfl, rfl, p2⟩⟩
  · have c1 : nI f - nI t = nI (f - t) := pk_sub (by omega)
    rw [c1, if_neg (nI_nle (by omega) (by omega)), if_neg c]
    exact ⟨Fr.sI _ _ _ _ _ _ (by decide), rfl, fun _ => ⟨rfl, rfl, rfl⟩, fun q => absurd q c⟩
theorem RScr.st {S S' mt : CS} (h : RScr S mt) (F : Fr [2, 3, 4, 9, 16, 17, 19, 22, 30] [0, 3, 4] [0, 5] S S') : RScr S' mt := by
  unfold RScr at h ⊢
  rw [F.1 24 (by decide), F.1 25 (by decide), F.1 26 (by decide), F.1 27 (by decide), F.1 28 (by decide), F.1 29 (by decide), F.2.2.1 6 (by decide), F.2.2.1 7 (by decide)]
  exact h
/-- screen and disk, in the order of their ends -/
theorem two_go {S mt : CS} {f d t s p : Nat} {g m5 : Nat → Int32} (e30 : gI S 30 = nI f) (hf : f ≤ 20000) (ht : t < 20000) (hd : d < 5001) (e16 : gI S 16 = nI d) (hs : s < 16) (hp : p < 16) (e13 : d ≠ 0 → gI S 13 = nI s) (e14 : d ≠ 0 → gI S 14 = nI p) (hS : RScr S mt)
    (hm5 : ∀ j, j < 16384 → (if gI S 15 = 0 then gA S 0 else va_cpy (gA S 5) (gA S 0) (1024 * s) (1024 * p) 1024) j = m5 j ∨ ¬ (1 ≤ d ∧ d ≤ t)) (hm0 : ∀ j, j < 16384 → gA S 0 j = gA mt 5 j)
    (hP : f ≤ t → ∀ S' : CS, (∀ j, j < 16384 → gA S' 0 j = (if 1 ≤ d ∧ d ≤ f then m5 else gA mt 5) j) → RScr S' mt → ∃ f', pnt S' = sA S' 7 f' ∧ ∀ j, j < 2048 → f' j = g j) :
    Fr [2, 3, 4, 16, 30] [3, 4] [0, 5, 7] S (cPageBoard_devicesGoOn_b16 S (nI t)) ∧ gI (cPageBoard_devicesGoOn_b16 S (nI t)) 30 = nI (if f ≤ t then f + 20000 - t else f - t) ∧ gI (cPageBoard_devicesGoOn_b16 S (nI t)) 16 = nI (d - t) ∧
    (¬ f ≤ t → gI (cPageBoard_devicesGoOn_b16 S (nI t)) 2 = gI S 2 ∧ gL (cPageBoard_devicesGoOn_b16 S (nI t)) 4 = gL S 4 ∧ gA (cPageBoard_devicesGoOn_b16 S (nI t)) 7 = gA S 7) ∧
    (f ≤ t → gI (cPageBoard_devicesGoOn_b16 S (nI t)) 2 = gI S 2 ||| 8 ∧ gL (cPageBoard_devicesGoOn_b16 S (nI t)) 4 = gL S 4 + 1 ∧ ∀ j, j < 2048 → gA (cPageBoard_devicesGoOn_b16 S (nI t)) 7 j = g j) ∧
    (¬ (1 ≤ d ∧ d ≤ t) → gI (cPageBoard_devicesGoOn_b16 S (nI t)) 3 = gI S 3 ∧ gI (cPageBoard_devicesGoOn_b16 S (nI t)) 4 = gI S 4 ∧ gL (cPageBoard_devicesGoOn_b16 S (nI t)) 3 = gL S 3 ∧ gA (cPageBoard_devicesGoOn_b16 S (nI t)) 0 = gA S 0 ∧ gA (cPageBoard_devicesGoOn_b16 S (nI t)) 5 = gA S 5) ∧
    ((1 ≤ d ∧ d ≤ t) → gI (cPageBoard_devicesGoOn_b16 S (nI t)) 3 = gI S 3 ||| 8 ∧ gI (cPageBoard_devicesGoOn_b16 S (nI t)) 4 = gI S 4 ||| 1 ∧ gL (cPageBoard_devicesGoOn_b16 S (nI t)) 3 = gL S 3 + 1024 ∧
      gA (cPageBoard_devicesGoOn_b16 S (nI t)) 0 = (if gI S 15 = 0 then gA S 0 else va_cpy (gA S 5) (gA S 0) (1024 * s) (1024 * p) 1024) ∧ gA (cPageBoard_devicesGoOn_b16 S (nI t)) 5 = (if gI S 15 = 0 then va_cpy (gA S 0) (gA S 5) (1024 * p) (1024 * s) 1024 else gA S 5)) := by
  by_cases c : f < d
  · have e : cPageBoard_devicesGoOn_b16 S (nI t) = cDisk_goOn (cScreen_goOn S (nI t)) (nI t) := by
      unfold cPageBoard_devicesGoOn_b16
      rw [e30, e16, if_pos ((nI_ltI (by omega) (by omega)).mpr c)]
      rfl
    rw [e]
    obtain ⟨a1, a2, a3, a4⟩ := scr_go (g := g) e30 hf ht (fun z S' q1 q2 => hP z S' (fun j hj => by rw [if_neg (by omega), q1]; exact hm0 j hj) q2) hS
    obtain ⟨b1, b2, b3, b4⟩ := dsk_go (cScreen_goOn S (nI t)) (d := d) (t := t) hd (by omega) (by rw [a1.1 16 (by decide)]; exact e16) hs hp (fun z => by rw [a1.1 13 (by decide)]; exact e13 z) (fun z => by rw [a1.1 14 (by decide)]; exact e14 z)
    rw [a1.1 3 (by decide), a1.1 4 (by decide), a1.1 15 (by decide), a1.2.1 3 (by decide), a1.2.2.1 0 (by decide), a1.2.2.1 5 (by decide)] at b4
    rw [a1.1 3 (by decide), a1.1 4 (by decide), a1.2.1 3 (by decide), a1.2.2.1 0 (by decide), a1.2.2.1 5 (by decide)] at b3
    refine ⟨(a1.mono (by decide) (by decide) (by decide)).tr (b1.mono (by decide) (by decide) (by decide)), by rw [b1.1 30 (by decide)]; exact a2, b2, ?_, ?_, b3, b4⟩
    · rw [b1.1 2 (by decide), b1.2.1 4 (by decide), b1.2.2.1 7 (by decide)]
      exact a3
    · rw [b1.1 2 (by decide), b1.2.1 4 (by decide), b1.2.2.1 7 (by decide)]
      exact a4
  · have e : cPageBoard_devicesGoOn_b16 S (nI t) = cScreen_goOn (cDisk_goOn S (nI t)) (nI t) := by
      unfold cPageBoard_devicesGoOn_b16
      rw [e30, e16, if_neg (fun q => c ((nI_ltI (by omega) (by omega)).mp q))]
      rfl
    rw [e]
    obtain ⟨b1, b2, b3, b4⟩ := dsk_go S (d := d) (t := t) hd (by omega) e16 hs hp e13 e14
    have hm : f ≤ t → ∀ j, j < 16384 → gA (cDisk_goOn S (nI t)) 0 j = (if 1 ≤ d ∧ d ≤ f then m5 else gA mt 5) j := by
      intro z j hj
      by_cases y : 1 ≤ d
      · rw [if_pos ⟨y, by omega⟩, (b4 ⟨y, by omega⟩).2.2.2.1]
        rcases hm5 j hj with w | w
        · exact w
        · exact absurd ⟨y, by omega⟩ w
      · rw [if_neg (fun q => y q.1), (b3 (fun q => y q.1)).2.2.2.1]
        exact hm0 j hj
    obtain ⟨a1, a2, a3, a4⟩ := scr_go (S := cDisk_goOn S (nI t)) (g := g) (by rw [b1.1 30 (by decide)]; exact e30) hf ht (fun z S' q1 q2 => hP z S' (fun j hj => by rw [q1]; exact hm z j hj) q2) (hS.st (b1.mono (by decide) (by decide) (by decide)))
    rw [b1.1 2 (by decide), b1.2.1 4 (by decide), b1.2.2.1 7 (by decide)] at a3
    rw [b1.1 2 (by decide), b1.2.1 4 (by decide)] at a4
    refine ⟨(b1.mono (by decide) (by decide) (by decide)).tr (a1.mono (by decide) (by decide) (by decide)), a2, by rw [a1.1 16 (by decide)]; exact b2, a3, a4, ?_, ?_⟩
    · rw [a1.1 3 (by decide), a1.1 4 (by decide), a1.2.1 3 (by decide), a1.2.2.1 0 (by decide), a1.2.2.1 5 (by decide)]
      exact b3
    · rw [a1.1 3 (by decide), a1.1 4 (by decide), a1.2.1 3 (by decide), a1.2.2.1 0 (by decide), a1.2.2.1 5 (by decide)]
      exact b4
