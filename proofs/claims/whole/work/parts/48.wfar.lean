/-! PURE 8: the disk, the settings, the screen written; a far write -/
theorem rdy_eq {N : Nat} {st mt : CS} (h : RK N st mt) (w : Int32) (hw : w = 1) : RK N (cLines_diskIsReady (sI st 12 w)) (sI (sI mt 22 w) 23 1) := by
  obtain ⟨h1, h2, h3, h4, h5, h6, h7, h8, h9, h10, h11, h12⟩ := h
  refine ⟨h1, h2, h3, ⟨h4.1, ?_, ?_, h4.2.2.2⟩, ⟨h5.1, h5.2.1, h5.2.2.1, h5.2.2.2.1, Or.inr hw, Or.inr rfl⟩, h6, ⟨h7.1, h7.2.1, rfl, h7.2.2.2⟩, h8, h9, h10, h11, h12⟩
  · show gI st 3 ||| 8 = m_statusB _
    rw [h4.2.1, m_statusB_eq, m_statusB_eq]
    exact vB6 _ _ _
  · show gI st 4 ||| 1 = m_statusF _
    rw [h4.2.2.1, m_statusF_eq, m_statusF_eq]
    exact vF6 _
theorem rng_0 {x : Int32} {n : Nat} (h : rng x n) (hn : n < 2 ^ 31) : x ≤ 0 ↔ x = 0 := by
  obtain ⟨j, hj, rfl⟩ := h
  constructor
  · intro q
    have : j ≤ 0 := (nI_leI (a := j) (b := 0) (by omega) (by omega)).mp q
    have : j = 0 := by omega
    subst this
    rfl
  · intro q
    rw [q]
    decide
theorem wd_order {N : Nat} {st mt : CS} (h : RK N st mt) (v : Int32) : RK N (cDisk_write st 2 v) (m_disk mt v) ∧ KC st (cDisk_write st 2 v) ∧ KM mt (m_disk mt v) := by
  obtain ⟨h1, h2, h3, h4, h5, h6, h7, h8, h9, h10, h11, h12⟩ := id h
  obtain ⟨d1, d2, d3, d4, d5, d6, d7, d8, d9, d10⟩ := id h7
  have e1 : cDisk_write st 2 v = (if gI st 16 = 0 then (if v = 1 then cDisk_write_b48 st v else if v = 2 then cDisk_write_b48 st v else cDisk_write_b66 st v) else st) := rfl
  rw [e1]
  unfold m_disk
  rw [d4]
  have key37 : RK N (cDisk_write_b66 st v) (m_disk_b37 mt v) ∧ KC st (cDisk_write_b66 st v) ∧ KM mt (m_disk_b37 mt v) := ⟨rdy_eq h 1 rfl, ⟨rfl, rfl, rfl, rfl, rfl, rfl⟩, ⟨rfl, rfl, rfl, rfl, rfl, rfl⟩⟩
  by_cases q0 : gI mt 18 = 0
  · rw [if_pos q0, if_pos ((rng_0 d7 (by decide)).mpr q0)]
    have key19 : (v = 1 ∨ v = 2) → RK N (cDisk_write_b48 st v) (m_disk_b19 mt v) ∧ KC st (cDisk_write_b48 st v) ∧ KM mt (m_disk_b19 mt v) := by
      intro hv
      unfold cDisk_write_b48 m_disk_b19
      rw [d1, d2]
      obtain ⟨s, hs, es⟩ := d5
      obtain ⟨p, hp, ep⟩ := d6
      by_cases c1 : (16 : Int32) ≤ gI mt 16
      · have c2 : (15 : Int32) < gI mt 16 := Int32.lt_of_lt_of_le (by decide) c1
        rw [if_pos c1, if_pos c2]
        exact key37
      · have s16 : s < 16 := by
          rcases Nat.lt_or_ge s 16 with z | z
          · exact z
          · exact absurd (by rw [es]; exact nI_le (a := 16) z (by omega)) c1
        have c2 : ¬ (15 : Int32) < gI mt 16 := by rw [es]; exact nI_nlt (a := 15) (b := s) (by omega) (by decide)
        rw [if_neg c1, if_neg c2]
        by_cases c3 : gI mt 17 < (16 : Int32)
        · have p16 : p < 16 := by rw [ep] at c3; exact (nI_ltI (a := p) (b := 16) (by omega) (by omega)).mp c3
          have c4 : gI mt 17 ≤ (15 : Int32) := by rw [ep]; exact nI_le (b := 15) (by omega) (by decide)
          rw [if_pos c3, if_pos c4]
          have base : ∀ w : Int32, (w = 0 ↔ ¬ v = 1) → RK N (cDisk_write_b102 (sI st 12 0) w) (m_disk_b42 mt v 0) := by
            intro w hw
            refine ⟨h1, h2, h3, h4, ⟨h5.1, h5.2.1, h5.2.2.1, h5.2.2.2.1, Or.inl rfl, h5.2.2.2.2.2⟩, h6, ⟨d1, d2, rfl, rfl, ⟨s, hs, es⟩, ⟨p, hp, ep⟩, ⟨5000, by omega, rfl⟩, ⟨s, s16, es⟩, ⟨p, p16, ep⟩, fun _ => ⟨d1, d2, hw⟩⟩, h8, h9, h10, h11, h12⟩
          unfold cDisk_write_b71
          by_cases v1 : v = 1
          · rw [if_pos v1]
            exact ⟨base 1 ⟨fun z => absurd z (by decide), fun z => absurd v1 z⟩, ⟨rfl, rfl, rfl, rfl, rfl, rfl⟩, ⟨rfl, rfl, rfl, rfl, rfl, rfl⟩⟩
          · rw [if_neg v1]
            exact ⟨base 0 ⟨fun _ => v1, fun _ => rfl⟩, ⟨rfl, rfl, rfl, rfl, rfl, rfl⟩, ⟨rfl, rfl, rfl, rfl, rfl, rfl⟩⟩
        · have p16 : 16 ≤ p := by
            rcases Nat.lt_or_ge p 16 with z | z
            · exact absurd (by rw [ep]; exact nI_lt (b := 16) z (by decide)) c3
            · exact z
          have c4 : ¬ gI mt 17 ≤ (15 : Int32) := by rw [ep]; exact nI_ge (a := 15) (b := p) (by omega) (by omega)
          rw [if_neg c3, if_neg c4]
          exact key37
    by_cases v1 : v = 1
    · rw [if_pos v1, if_pos v1]
      exact key19 (Or.inl v1)
    · rw [if_neg v1, if_neg v1]
      by_cases v2 : v = 2
      · rw [if_pos v2, if_pos v2]
        exact key19 (Or.inr v2)
      · rw [if_neg v2, if_neg v2]
        exact key37
  · rw [if_neg q0, if_neg (fun z => q0 ((rng_0 d7 (by decide)).mp z))]
    exact ⟨h, KC.rf _, KM.rf _⟩
theorem v_rng (v0 : Int32) : rng (v0 &&& 255) 256 := rng_and v0 8 rfl
theorem wdev {N : Nat} {st mt : CS} (h : RK N st mt) (hN : N < 2 ^ 30) {j : Nat} (hj : j < 1048576) (v0 : Int32) :
    RK (N + 1) (if cBus_isOfController (nI j) = 0 then (if cBus_isOfDisk (nI j) = 0 then st else cDisk_write st (nI j &&& 3) (v0 &&& 255)) else cBus_write_b98 (cController_write st (nI j &&& 31) (v0 &&& 255))) (m_writeDevice mt (nI j) (v0 &&& 255)) ∧ KC st (if cBus_isOfController (nI j) = 0 then (if cBus_isOfDisk (nI j) = 0 then st else cDisk_write st (nI j &&& 3) (v0 &&& 255)) else cBus_write_b98 (cController_write st (nI j &&& 31) (v0 &&& 255))) ∧ KM mt (m_writeDevice mt (nI j) (v0 &&& 255)) := by
  have hM : RK (N + 1) st mt := h.mono (by omega)
  by_cases c : 524288 ≤ j ∧ j < 524320
  · rw [if_neg (fun q => (ofC hj).mp q c)]
    obtain ⟨i, e0⟩ : ∃ i, j = 524288 + i := ⟨j - 524288, by omega⟩
    have hi : i < 32 := by omega
    clear c
    subst e0
    have e1 : nI (524288 + i) &&& 31 = nI i := by rw [pk_andN (by omega) 5 rfl, show (524288 + i) % 2 ^ 5 = i by omega]
    rw [e1]
    unfold cBus_write_b98
    exact wd_ctl h hN hi v0
  · rw [if_pos ((ofC hj).mpr c)]
    by_cases d : 16384 ≤ j ∧ j < 16388
    · rw [if_neg (fun q => (ofD hj).mp q d)]
      obtain ⟨h1, h2, h3, h4, h5, h6, h7, h8, h9, h10, h11, h12⟩ := id hM
      rcases (by omega : j = 16384 ∨ j = 16385 ∨ j = 16386 ∨ j = 16387) with rfl | rfl | rfl | rfl
      · have e1 : cDisk_write st (nI 16384 &&& 3) (v0 &&& 255) = sI st 10 (v0 &&& 255) := rfl
        have e2 : m_writeDevice mt (nI 16384) (v0 &&& 255) = sI mt 16 (v0 &&& 255) := rfl
        rw [e1, e2]
        exact ⟨⟨h1, h2, h3, h4, h5, h6, ⟨rfl, h7.2.1, h7.2.2.1, h7.2.2.2.1, v_rng v0, h7.2.2.2.2.2⟩, h8, h9, h10, h11, h12⟩, ⟨rfl, rfl, rfl, rfl, rfl, rfl⟩, ⟨rfl, rfl, rfl, rfl, rfl, rfl⟩⟩
      · have e1 : cDisk_write st (nI 16385 &&& 3) (v0 &&& 255) = sI st 11 (v0 &&& 255) := rfl
        have e2 : m_writeDevice mt (nI 16385) (v0 &&& 255) = sI mt 17 (v0 &&& 255) := rfl
        rw [e1, e2]
        exact ⟨⟨h1, h2, h3, h4, h5, h6, ⟨h7.1, rfl, h7.2.2.1, h7.2.2.2.1, h7.2.2.2.2.1, v_rng v0, h7.2.2.2.2.2.2⟩, h8, h9, h10, h11, h12⟩, ⟨rfl, rfl, rfl, rfl, rfl, rfl⟩, ⟨rfl, rfl, rfl, rfl, rfl, rfl⟩⟩
      · have e1 : cDisk_write st (nI 16386 &&& 3) (v0 &&& 255) = cDisk_write st 2 (v0 &&& 255) := rfl
        have e2 : m_writeDevice mt (nI 16386) (v0 &&& 255) = m_disk mt (v0 &&& 255) := rfl
        rw [e1, e2]
        have := wd_order h (v0 &&& 255)
        exact ⟨this.1.mono (by omega), this.2⟩
      · have e1 : cDisk_write st (nI 16387 &&& 3) (v0 &&& 255) = st := rfl
        have e2 : m_writeDevice mt (nI 16387) (v0 &&& 255) = mt := rfl
        rw [e1, e2]
        exact ⟨hM, KC.rf _, KM.rf _⟩
    · rw [if_pos ((ofD hj).mpr d)]
      have e2 : m_writeDevice mt (nI j) (v0 &&& 255) = mt := by
        have hy := sub_small hj c
        have w : m_within (nI j - 524288) 16 23 = 0 := Decidable.byContradiction (fun q => by
          obtain ⟨i, -, hi, e, -⟩ := tix q
          exact hy i (by omega) e)
        unfold m_writeDevice m_writeDevice_b12 m_writeDevice_b24 m_writeDevice_b36 m_writeDevice_b66 m_writeDevice_b104 m_writeDevice_b181 m_writeDevice_b192 m_writeDevice_b203
        rw [if_neg (show ¬ nI j = (16384 : Int32) from nI_ne (b := 16384) (by omega) (by omega) (by omega)), if_neg (show ¬ nI j = (16385 : Int32) from nI_ne (b := 16385) (by omega) (by omega) (by omega)), if_neg (show ¬ nI j = (16386 : Int32) from nI_ne (b := 16386) (by omega) (by omega) (by omega)), if_pos w, if_neg (show ¬ nI j - 524288 = (1 : Int32) from hy 1 (by omega)), if_neg (show ¬ nI j - 524288 = (5 : Int32) from hy 5 (by omega)), if_neg (show ¬ nI j - 524288 = (6 : Int32) from hy 6 (by omega)), if_neg (show ¬ nI j - 524288 = (10 : Int32) from hy 10 (by omega)), if_neg (show ¬ nI j - 524288 = (14 : Int32) from hy 14 (by omega))]
      rw [e2]
      exact ⟨hM, KC.rf _, KM.rf _⟩
theorem tell_eq {N : Nat} {st mt : CS} (h : RK N st mt) (x : Int32) : RK N (cEntries_tell st x) (m_writeFar_b163 (sA mt 8 (upd (gA mt 8) (x &&& 15).toNatClampNeg ((x >>> ((8 : Int32) &&& 31)) &&& 3))) x (x &&& 15)) ∧ KC st (cEntries_tell st x) ∧ KM mt (m_writeFar_b163 (sA mt 8 (upd (gA mt 8) (x &&& 15).toNatClampNeg ((x >>> ((8 : Int32) &&& 31)) &&& 3))) x (x &&& 15)) := by
  obtain ⟨h1, h2, h3, h4, h5, h6, h7, h8, h9, h10, h11, h12⟩ := h
  have f1 : (x >>> ((8 : Int32) &&& 31)) &&& 3 = ushr x 8 &&& 3 := fld x 8 2 (by omega) (by omega)
  have f2 : (x >>> ((12 : Int32) &&& 31)) &&& 2047 = ushr x 12 &&& 2047 := fld x 12 11 (by omega) (by omega)
  have f3 : (x >>> ((10 : Int32) &&& 31)) &&& 3 = ushr x 10 &&& 3 := fld x 10 2 (by omega) (by omega)
  have b1 : (x &&& 16) = 0 ↔ bt x 4 = false := bitm x 4 (by omega)
  have b2 : ((x >>> ((4 : Int32) &&& 31)) &&& 1) = 1 ↔ bt x 4 = true := bit1_1 x 4 (by omega)
  unfold cEntries_tell m_writeFar_b163 m_writeFar_b199
  rw [f1, f2, f3]
  cases c : bt x 4
  · rw [if_pos (b1.mpr c), if_neg (fun q => by rw [b2.mp q] at c; cases c)]
    exact ⟨⟨h1, h2, ⟨fun j hj => upd_eq h3.1 j hj, fun j hj => upd_eq h3.2.1 j hj, h3.2.2⟩, h4, h5, h6, h7, h8, h9, h10, h11, h12⟩, ⟨rfl, rfl, rfl, rfl, rfl, rfl⟩, ⟨rfl, rfl, rfl, rfl, rfl, rfl⟩⟩
  · rw [if_neg (fun q => by rw [b1.mp q] at c; cases c), if_pos (b2.mpr c)]
    exact ⟨⟨h1, h2, ⟨fun j hj => upd_eq h3.1 j hj, fun j hj => upd_eq h3.2.1 j hj, h3.2.2⟩, h4, h5, h6, h7, h8, h9, h10, h11, h12⟩, ⟨rfl, rfl, rfl, rfl, rfl, rfl⟩, ⟨rfl, rfl, rfl, rfl, rfl, rfl⟩⟩
def setM (mt : CS) (x : Int32) : CS := if (3 : Int32) ≤ ((x >>> ((17 : Int32) &&& 31)) &&& 7) then m_writeFar_b117 mt x ((x >>> ((17 : Int32) &&& 31)) &&& 7) else m_writeFar_b117 (sA mt 10 (upd (gA mt 10) ((x >>> ((17 : Int32) &&& 31)) &&& 7).toNatClampNeg ((x >>> ((2 : Int32) &&& 31)) &&& 32767))) x ((x >>> ((17 : Int32) &&& 31)) &&& 7)
theorem set_eq {N : Nat} {st mt : CS} (h : RK N st mt) (x : Int32) : RK N (cBus_tellSetting st x) (setM mt x) ∧ KC st (cBus_tellSetting st x) ∧ KM mt (setM mt x) := by
  obtain ⟨h1, h2, h3, h4, h5, h6, h7, h8, ⟨s1, s2, s3, s4, s5, s6, s7⟩, h10, h11, h12⟩ := id h
  have f1 : (x >>> ((17 : Int32) &&& 31)) &&& 7 = ushr x 17 &&& 7 := fld x 17 3 (by omega) (by omega)
  have f2 : (x >>> ((2 : Int32) &&& 31)) &&& 32767 = ushr x 2 &&& 32767 := fld x 2 15 (by omega) (by omega)
  have f3 : (x >>> ((10 : Int32) &&& 31)) &&& 1 = ushr x 10 &&& 1 := fld x 10 1 (by omega) (by omega)
  have f4 : (x >>> ((12 : Int32) &&& 31)) &&& 1 = ushr x 12 &&& 1 := fld x 12 1 (by omega) (by omega)
  obtain ⟨i, hi, e⟩ := rng_and (ushr x 17) (m := 7) 3 rfl
  unfold cBus_tellSetting setM m_writeFar_b117
  rw [f1, f2, f3, f4, e]
  have hi : i < 8 := hi
  rcases (by omega : i = 0 ∨ i = 1 ∨ i = 2 ∨ i = 3 ∨ i = 4 ∨ i = 5 ∨ i = 6 ∨ i = 7) with rfl | rfl | rfl | rfl | rfl | rfl | rfl | rfl
  · exact ⟨⟨h1, h2, h3, h4, h5, h6, h7, h8, ⟨s1, s2, rfl, s4, s5, s6, s7⟩, h10, h11, h12⟩, ⟨rfl, rfl, rfl, rfl, rfl, rfl⟩, ⟨rfl, rfl, rfl, rfl, rfl, rfl⟩⟩
  · exact ⟨⟨h1, h2, h3, h4, h5, h6, h7, h8, ⟨s1, s2, s3, rfl, s5, s6, s7⟩, h10, h11, h12⟩, ⟨rfl, rfl, rfl, rfl, rfl, rfl⟩, ⟨rfl, rfl, rfl, rfl, rfl, rfl⟩⟩
  · exact ⟨⟨h1, h2, h3, h4, h5, h6, h7, h8, ⟨s1, s2, s3, s4, rfl, s6, s7⟩, h10, h11, h12⟩, ⟨rfl, rfl, rfl, rfl, rfl, rfl⟩, ⟨rfl, rfl, rfl, rfl, rfl, rfl⟩⟩
  · exact ⟨h, ⟨rfl, rfl, rfl, rfl, rfl, rfl⟩, ⟨rfl, rfl, rfl, rfl, rfl, rfl⟩⟩
  · exact ⟨h, ⟨rfl, rfl, rfl, rfl, rfl, rfl⟩, ⟨rfl, rfl, rfl, rfl, rfl, rfl⟩⟩
  · exact ⟨h, ⟨rfl, rfl, rfl, rfl, rfl, rfl⟩, ⟨rfl, rfl, rfl, rfl, rfl, rfl⟩⟩
  · exact ⟨h, ⟨rfl, rfl, rfl, rfl, rfl, rfl⟩, ⟨rfl, rfl, rfl, rfl, rfl, rfl⟩⟩
  · exact ⟨⟨h1, h2, ⟨h3.1, h3.2.1, rfl⟩, h4, h5, h6, h7, h8, ⟨s1, s2, s3, s4, s5, rfl, s7⟩, h10, h11, h12⟩, ⟨rfl, rfl, rfl, rfl, rfl, rfl⟩, ⟨rfl, rfl, rfl, rfl, rfl, rfl⟩⟩
theorem top6 (x : Int32) : rng (ushr x 26) 64 := by
  have e : ushr x 26 = ushr x 26 &&& 63 := b_ext fun i hi => by
    rw [b_and, show ushr x 26 = ushr x (nI 26) from rfl, b_ushr 26 (by omega) x i, show (63 : Int32) = nI (2 ^ 6 - 1) from rfl, b_mask 6 hi]
    by_cases c : i < 6
    · simp [c]
    · rw [b_big (by omega)]; rfl
  rw [e]
  exact rng_and _ 6 rfl
def scrM (mt : CS) (x : Int32) : CS := if (16 : Int32) ≤ ushr x 26 then m_writeFar_b52 mt x (ushr x 26) else m_writeFar_b52 (sA mt 9 (upd (gA mt 9) (ushr x 26).toNatClampNeg (x &&& 8191))) x (ushr x 26)
theorem scr_eq {N : Nat} {st mt : CS} (h : RK N st mt) (x : Int32) : RK N (cScreen_written st x) (scrM mt x) ∧ KC st (cScreen_written st x) ∧ KM mt (scrM mt x) := by
  obtain ⟨h1, h2, h3, h4, h5, h6, h7, h8, ⟨s1, s2, s3, s4, s5, s6, s7, s8, s9⟩, h10, h11, h12⟩ := id h
  have f1 : (x >>> ((2 : Int32) &&& 31)) &&& 3 = ushr x 2 &&& 3 := fld x 2 2 (by omega) (by omega)
  obtain ⟨i, hi, e⟩ := top6 x
  unfold cScreen_written scrM m_writeFar_b52 m_writeFar_b67
  rw [f1, e]
  by_cases c : (16 : Int32) ≤ nI i
  · rw [if_pos c, if_pos c]
    by_cases c1 : nI i = 16
    · have c2 : ¬ nI i = 56 := by rw [c1]; decide
      rw [if_pos c1, if_pos c1, if_neg c2]
      exact ⟨⟨h1, h2, h3, h4, h5, h6, h7, h8, ⟨rfl, s2, s3, s4, s5, s6, s7, s8, s9⟩, h10, h11, h12⟩, ⟨rfl, rfl, rfl, rfl, rfl, rfl⟩, ⟨rfl, rfl, rfl, rfl, rfl, rfl⟩⟩
    · rw [if_neg c1, if_neg c1]
      by_cases c2 : nI i = 56
      · rw [if_pos c2, if_pos c2]
        exact ⟨⟨h1, h2, h3, h4, h5, h6, h7, h8, ⟨s1, rfl, s3, s4, s5, s6, rng_and _ 2 rfl, s8, s9⟩, h10, h11, h12⟩, ⟨rfl, rfl, rfl, rfl, rfl, rfl⟩, ⟨rfl, rfl, rfl, rfl, rfl, rfl⟩⟩
      · rw [if_neg c2, if_neg c2]
        exact ⟨h, ⟨rfl, rfl, rfl, rfl, rfl, rfl⟩, ⟨rfl, rfl, rfl, rfl, rfl, rfl⟩⟩
  · have c1 : ¬ nI i = 16 := fun q => c (by rw [q]; decide)
    have c2 : ¬ nI i = 56 := fun q => c (by rw [q]; decide)
    rw [if_neg c, if_neg c, if_neg c1, if_neg c2]
    exact ⟨⟨h1, h2, h3, h4, h5, h6, h7, h8, ⟨s1, s2, s3, s4, s5, s6, s7, fun j hj => upd_eq s8 j hj, s9⟩, h10, h11, h12⟩, ⟨rfl, rfl, rfl, rfl, rfl, rfl⟩, ⟨rfl, rfl, rfl, rfl, rfl, rfl⟩⟩
theorem o_wfar {N : Nat} {st mt : CS} (h : RK N st mt) (hN : N < 2 ^ 30) (x v : Int32) : o_m_writeFar mt x v := by
  obtain ⟨n, hn, g1, -⟩ := h.2.2.2.2.2.2.2.2.2.2.1
  have v15 : vp_in (x &&& 15) 16 := pk_andIn x 4 rfl (by omega)
  obtain ⟨i, hi, e⟩ := top6 v
  obtain ⟨i2, hi2, e2⟩ := rng_and (x >>> ((17 : Int32) &&& 31)) (m := 7) 3 rfl
  have hi2 : i2 < 8 := hi2
  unfold o_m_writeFar o_m_writeFar_b163 o_m_writeFar_b199
  refine ⟨fun _ => ⟨fun _ => ⟨fun _ => ⟨fun _ => ⟨v15, trivial⟩, fun _ => ⟨v15, trivial⟩⟩, fun _ => ⟨fun _ => trivial, fun q => ⟨?_, trivial⟩⟩⟩, fun _ => ⟨fun _ => trivial, fun q => ⟨?_, trivial⟩⟩⟩, fun _ => ⟨o_wd mt _ _ (by omega) g1, trivial⟩⟩
  · rw [e2] at q ⊢
    refine vp_in_nI ?_ (by decide)
    rcases Nat.lt_or_ge i2 3 with z | z
    · exact z
    · exact absurd (nI_le (a := 3) z (by omega)) q
  · rw [e] at q ⊢
    refine vp_in_nI ?_ (by decide)
    rcases Nat.lt_or_ge i 16 with z | z
    · exact z
    · exact absurd (nI_le (a := 16) z (by omega)) q
theorem write_far {N : Nat} {st mt : CS} (h : RK N st mt) (hN : N < 2 ^ 30) {a : Nat} (h0 : 50331648 ≤ a) (ha : a < 67108864) (v : Int32) : o_m_writeFar mt (nI a) v ∧ RK (N + 1) (cBus_write st (-2) (nI a) v) (m_writeFar mt (nI a) v) ∧ KC st (cBus_write st (-2) (nI a) v) ∧ KM mt (m_writeFar mt (nI a) v) := by
  refine ⟨o_wfar h hN _ _, ?_⟩
  unfold cBus_write m_writeFar
  rw [if_pos m_in2]
  rcases Nat.lt_or_ge a 54525952 with q | q
  · have c1 : nI a < 54525952 := nI_lt (b := 54525952) q (by decide)
    have c2 : nI a < 56623104 := nI_lt (b := 56623104) (by omega) (by decide)
    have c3 : nI a < 58720256 := nI_lt (b := 58720256) (by omega) (by decide)
    rw [if_pos c3, if_pos c2, if_pos c1, if_neg (Int32.not_le.mpr c1), dev_ix ha]
    exact wdev h hN (Nat.mod_lt _ (by omega)) v
  · have c1 : ¬ nI a < 54525952 := nI_nlt (b := 54525952) q (by omega)
    rw [if_pos (Int32.not_lt.mp c1), if_neg c1]
    rcases Nat.lt_or_ge a 56623104 with q2 | q2
    · have c2 : nI a < 56623104 := nI_lt (b := 56623104) (by omega) (by decide)
      have c3 : nI a < 58720256 := nI_lt (b := 58720256) (by omega) (by decide)
      rw [if_pos c3, if_pos c2, if_neg (Int32.not_le.mpr c2)]
      have := scr_eq h v
      exact ⟨this.1.mono (by omega), this.2⟩
    · have c2 : ¬ nI a < 56623104 := nI_nlt (b := 56623104) q2 (by omega)
      rw [if_neg c2, if_pos (Int32.not_lt.mp c2)]
      rcases Nat.lt_or_ge a 58720256 with q3 | q3
      · have c3 : nI a < 58720256 := nI_lt (b := 58720256) q3 (by decide)
        rw [if_pos c3, if_neg (Int32.not_le.mpr c3)]
        have := set_eq h (nI a)
        exact ⟨this.1.mono (by omega), this.2⟩
      · have c3 : ¬ nI a < 58720256 := nI_nlt (b := 58720256) q3 (by omega)
        rw [if_neg c3, if_pos (Int32.not_lt.mp c3)]
        have := tell_eq h (nI a)
        exact ⟨this.1.mono (by omega), this.2⟩
