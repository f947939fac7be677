/-! PURE 7: the far places read and written -/
def KC (st st' : CS) : Prop := gA st' 1 = gA st 1 ∧ gA st' 8 = gA st 8 ∧ gI st' 31 = gI st 31 ∧ gI st' 32 = gI st 32 ∧ gI st' 33 = gI st 33 ∧ gI st' 34 = gI st 34
def KM (mt mt' : CS) : Prop := gI mt' 1 = gI mt 1 ∧ gI mt' 2 = gI mt 2 ∧ gI mt' 3 = gI mt 3 ∧ gI mt' 4 = gI mt 4 ∧ gA mt' 4 = gA mt 4 ∧ gB mt' 0 = gB mt 0
theorem KC.rf (st : CS) : KC st st := ⟨rfl, rfl, rfl, rfl, rfl, rfl⟩
theorem KM.rf (mt : CS) : KM mt mt := ⟨rfl, rfl, rfl, rfl, rfl, rfl⟩
theorem KC.tr {a b c : CS} (h : KC a b) (g : KC b c) : KC a c := ⟨g.1.trans h.1, g.2.1.trans h.2.1, g.2.2.1.trans h.2.2.1, g.2.2.2.1.trans h.2.2.2.1, g.2.2.2.2.1.trans h.2.2.2.2.1, g.2.2.2.2.2.trans h.2.2.2.2.2⟩
theorem KM.tr {a b c : CS} (h : KM a b) (g : KM b c) : KM a c := ⟨g.1.trans h.1, g.2.1.trans h.2.1, g.2.2.1.trans h.2.2.1, g.2.2.2.1.trans h.2.2.2.1, g.2.2.2.2.1.trans h.2.2.2.2.1, g.2.2.2.2.2.trans h.2.2.2.2.2⟩
theorem vB3 : ∀ d t r, vB d t r &&& -129 = vB d t true := by decide
theorem vB4 : ∀ d t r, vB d t r &&& -9 = vB true t r := by decide
theorem vB5 : ∀ d t r, vB d t r &&& -65 = vB d false r := by decide
theorem vB6 : ∀ d t r, vB d t r ||| 8 = vB false t r := by decide
theorem vB7 : ∀ d t r, vB d t r ||| 64 = vB d true r := by decide
theorem vF4 : ∀ d, vF d &&& -2 = vF true := by decide
theorem vF6 : ∀ d, vF d ||| 1 = vF false := by decide
theorem dev_ix {a : Nat} (ha : a < 67108864) : ushr (nI a) 2 &&& 1048575 = nI (a / 4 % 1048576) := by rw [ush2 ha, pk_andN (by omega) 20 rfl]
theorem nI_ne {a b : Nat} (h : a ≠ b) (ha : a < 2 ^ 31) (hb : b < 2 ^ 31) : ¬ nI a = nI b := fun q => h ((nI_eq ha hb).mp q)
theorem m_in2 : cBus_isInMemory (-2) = 0 := by decide
theorem m_inw {w : Nat} (hw : w < 16384) : ¬ cBus_isInMemory (nI w) = 0 := by
  unfold cBus_isInMemory
  rw [if_neg (nI_pos (by omega)), if_neg (show ¬ (16384 : Int32) ≤ nI w from nI_ge (b := 16384) hw (by decide))]
  decide
theorem read_far {N : Nat} {st mt : CS} (h : RK N st mt) {a : Nat} (h0 : 50331648 ≤ a) (ha : a < 67108864) : o_m_readFar mt (nI a) ∧ (cBus_read st (-2) (nI a)).2 = (m_readFar mt (nI a)).2 ∧ RK N (cBus_read st (-2) (nI a)).1 (m_readFar mt (nI a)).1 ∧ KC st (cBus_read st (-2) (nI a)).1 ∧ KM mt (m_readFar mt (nI a)).1 := by
  refine ⟨by unfold o_m_readFar; exact ⟨fun _ => ⟨o_val _ _, trivial⟩, fun _ => trivial⟩, ?_⟩
  unfold cBus_read m_readFar
  rw [if_pos m_in2, if_neg (show ¬ nI a < (50331648 : Int32) from nI_nlt (b := 50331648) h0 (by omega)), dev_ix ha]
  rcases Nat.lt_or_ge a 54525952 with q | q
  · have c1 : nI a < 54525952 := nI_lt (b := 54525952) q (by decide)
    rw [if_pos c1, if_pos c1]
    have hj : a / 4 % 1048576 < 1048576 := Nat.mod_lt _ (by omega)
    generalize a / 4 % 1048576 = j at hj
    have hv := value_eq h hj
    obtain ⟨h1, h2, h3, h4, h5, h6, h7, h8, h9, h10, h11, h12⟩ := id h
    by_cases c : 524288 ≤ j ∧ j < 524320
    · rw [if_neg (fun q => (ofC hj).mp q c)]
      have e1 : nI j &&& 31 = nI (j - 524288) := by rw [pk_andN (by omega) 5 rfl, show j % 2 ^ 5 = j - 524288 by omega]
      unfold cController_isRead
      rw [e1]
      by_cases d : j = 524289
      · subst d
        refine ⟨hv, ⟨h1, h2, h3, ⟨h4.1, ?_, h4.2.2⟩, ⟨h5.1, h5.2.1, h5.2.2.1, Or.inl rfl, h5.2.2.2.2⟩, h6, h7, h8, h9, h10, h11, h12⟩, ⟨rfl, rfl, rfl, rfl, rfl, rfl⟩, ⟨rfl, rfl, rfl, rfl, rfl, rfl⟩⟩
        show gI st 3 &&& -129 = m_statusB _
        rw [h4.2.1, m_statusB_eq, m_statusB_eq]
        exact vB3 _ _ _
      · rw [if_neg (show ¬ nI (j - 524288) = (1 : Int32) from nI_ne (b := 1) (by omega) (by omega) (by omega)), if_neg (show ¬ nI j = (524289 : Int32) from nI_ne (b := 524289) d (by omega) (by omega))]
        unfold m_readFar_b32
        rw [if_neg (show ¬ nI j = (16386 : Int32) from nI_ne (b := 16386) (by omega) (by omega) (by omega))]
        exact ⟨hv, h, KC.rf _, KM.rf _⟩
    · rw [if_pos ((ofC hj).mpr c), if_neg (show ¬ nI j = (524289 : Int32) from nI_ne (b := 524289) (by omega) (by omega) (by omega))]
      unfold m_readFar_b32
      by_cases d : 16384 ≤ j ∧ j < 16388
      · rw [if_neg (fun q => (ofD hj).mp q d)]
        have e1 : nI j &&& 3 = nI (j - 16384) := by rw [pk_andN (by omega) 2 rfl, show j % 2 ^ 2 = j - 16384 by omega]
        unfold cDisk_isRead
        rw [e1]
        by_cases d2 : j = 16386
        · subst d2
          refine ⟨hv, ⟨h1, h2, h3, ⟨h4.1, ?_, ?_, h4.2.2.2⟩, ⟨h5.1, h5.2.1, h5.2.2.1, h5.2.2.2.1, h5.2.2.2.2.1, Or.inl rfl⟩, h6, h7, h8, h9, h10, h11, h12⟩, ⟨rfl, rfl, rfl, rfl, rfl, rfl⟩, ⟨rfl, rfl, rfl, rfl, rfl, rfl⟩⟩
          · show gI st 3 &&& -9 = m_statusB _
            rw [h4.2.1, m_statusB_eq, m_statusB_eq]
            exact vB4 _ _ _
          · show gI st 4 &&& -2 = m_statusF _
            rw [h4.2.2.1, m_statusF_eq, m_statusF_eq]
            exact vF4 _
        · rw [if_neg (show ¬ nI (j - 16384) = (2 : Int32) from nI_ne (b := 2) (by omega) (by omega) (by omega)), if_neg (show ¬ nI j = (16386 : Int32) from nI_ne (b := 16386) d2 (by omega) (by omega))]
          exact ⟨hv, h, KC.rf _, KM.rf _⟩
      · rw [if_pos ((ofD hj).mpr d), if_neg (show ¬ nI j = (16386 : Int32) from nI_ne (b := 16386) (by omega) (by omega) (by omega))]
        exact ⟨hv, h, KC.rf _, KM.rf _⟩
  · have c1 : ¬ nI a < 54525952 := nI_nlt (b := 54525952) q (by omega)
    rw [if_neg c1, if_neg c1]
    exact ⟨rfl, h, KC.rf _, KM.rf _⟩
/-! what the reference owes at a write -/
theorem gL_timer (mt : CS) (t r v : Int32) : gL (m_timer mt t r v) = gL mt := by
  unfold m_timer m_timer_b21 m_timer_b47 m_timer_b64
  split <;> split <;> split <;> split <;> rfl
theorem gL_disk (mt : CS) (v : Int32) : gL (m_disk mt v) = gL mt := by
  unfold m_disk m_disk_b19 m_disk_b37 m_disk_b42
  repeat' split
  all_goals rfl
theorem o_timer (mt : CS) (t r v : Int32) (ht : vp_in t 2) : o_m_timer mt t r v := by
  unfold o_m_timer o_m_timer_b21 o_m_timer_b47 o_m_timer_b64
  exact ⟨fun _ => ⟨ht, ht, ⟨fun _ => ⟨ht, ht, ⟨fun _ => ⟨ht, ht, ⟨fun _ => ⟨ht, ht, trivial⟩, fun _ => trivial⟩⟩, fun _ => ⟨fun _ => ⟨ht, ht, trivial⟩, fun _ => trivial⟩⟩⟩, fun _ => ⟨fun _ => ⟨ht, ht, ⟨fun _ => ⟨ht, ht, trivial⟩, fun _ => trivial⟩⟩, fun _ => ⟨fun _ => ⟨ht, ht, trivial⟩, fun _ => trivial⟩⟩⟩⟩, fun _ => ⟨fun _ => ⟨ht, ht, ⟨fun _ => ⟨ht, ht, ⟨fun _ => ⟨ht, ht, trivial⟩, fun _ => trivial⟩⟩, fun _ => ⟨fun _ => ⟨ht, ht, trivial⟩, fun _ => trivial⟩⟩⟩, fun _ => ⟨fun _ => ⟨ht, ht, ⟨fun _ => ⟨ht, ht, trivial⟩, fun _ => trivial⟩⟩, fun _ => ⟨fun _ => ⟨ht, ht, trivial⟩, fun _ => trivial⟩⟩⟩⟩
theorem o_disk (mt : CS) (v : Int32) : o_m_disk mt v := by
  unfold o_m_disk o_m_disk_b19 o_m_disk_b37 o_m_disk_b42
  exact ⟨fun _ => ⟨fun _ => ⟨fun _ => ⟨Or.inr rfl, trivial⟩, fun _ => ⟨fun _ => ⟨Or.inl rfl, trivial⟩, fun _ => ⟨Or.inr rfl, trivial⟩⟩⟩, fun _ => ⟨fun _ => ⟨fun _ => ⟨Or.inr rfl, trivial⟩, fun _ => ⟨fun _ => ⟨Or.inl rfl, trivial⟩, fun _ => ⟨Or.inr rfl, trivial⟩⟩⟩, fun _ => ⟨Or.inr rfl, trivial⟩⟩⟩, fun _ => trivial⟩
theorem o_104 (mt : CS) (v y : Int32) : o_m_writeDevice_b104 mt v y := by
  have v0 : vp_in 0 2 := by unfold vp_in; decide
  have v1 : vp_in 1 2 := by unfold vp_in; decide
  unfold o_m_writeDevice_b104 o_m_writeDevice_b127 o_m_writeDevice_b154 o_m_writeDevice_b155 o_m_writeDevice_b180
  exact ⟨fun _ => ⟨fun _ => ⟨fun _ => ⟨v0, fun _ => ⟨v1, trivial⟩, fun _ => ⟨v1, trivial⟩⟩, fun _ => ⟨v0, fun _ => ⟨v1, trivial⟩, fun _ => ⟨v1, trivial⟩⟩⟩, fun _ => ⟨fun _ => ⟨v0, fun _ => ⟨v1, trivial⟩, fun _ => ⟨v1, trivial⟩⟩, fun _ => ⟨v0, fun _ => ⟨v1, trivial⟩, fun _ => ⟨v1, trivial⟩⟩⟩⟩, fun _ => trivial⟩
theorem o_66 (mt : CS) (v y : Int32) {n : Nat} (hn : n < 2 ^ 31) (hL : gL mt 1 = lN n) : o_m_writeDevice_b66 mt v y := by
  unfold o_m_writeDevice_b66 o_m_writeDevice_b87
  refine ⟨fun _ => ⟨?_, o_104 _ _ _⟩, fun _ => o_104 _ _ _⟩
  rw [hL, show (4000 : Int64) = lN 4000 from rfl, pk_lRem (by omega) (by omega) (by omega), lN_i]
  exact vp_in_nI (Nat.mod_lt _ (by omega)) (by decide)
theorem o_36 (mt : CS) (x v : Int32) {n : Nat} (hn : n < 2 ^ 31) (hL : gL mt 1 = lN n) : o_m_writeDevice_b36 mt x v := by
  unfold o_m_writeDevice_b36
  exact ⟨fun _ => o_66 _ _ _ hn hL, fun q => ⟨o_timer _ _ _ _ (tix_in q), o_66 _ _ _ hn (by rw [gL_timer]; exact hL)⟩⟩
theorem o_wd (mt : CS) (x v : Int32) {n : Nat} (hn : n < 2 ^ 31) (hL : gL mt 1 = lN n) : o_m_writeDevice mt x v := by
  have o24 : ∀ m : CS, gL m 1 = lN n → o_m_writeDevice_b24 m x v := fun m hm => by
    unfold o_m_writeDevice_b24
    exact ⟨fun _ => ⟨o_disk _ _, o_36 _ _ _ hn (by rw [gL_disk]; exact hm)⟩, fun _ => o_36 _ _ _ hn hm⟩
  unfold o_m_writeDevice o_m_writeDevice_b12
  exact ⟨fun _ => ⟨fun _ => o24 _ hL, fun _ => o24 _ hL⟩, fun _ => ⟨fun _ => o24 _ hL, fun _ => o24 _ hL⟩⟩
/-! the controller written -/
def sAf (t1 t0 f : Int32) : Int32 := ((128 ||| (t1 <<< ((6 : Int32) &&& 31))) ||| (t0 <<< ((5 : Int32) &&& 31))) ||| (f <<< ((3 : Int32) &&& 31))
theorem sA_eq (mt : CS) : m_statusA mt = sAf (gA mt 12 1) (gA mt 12 0) (gI mt 9) := rfl
def v104f (b6 b5 b3 : Bool) : Int32 := ((bif b3 then 8 else 0) ||| (bif b5 then 32 else 0)) ||| (bif b6 then 64 else 0)
theorem v104b : ∀ i, i < 32 → ∀ b6 b5 b3 bi : Bool, ((i != 3 || bi == b3) && (i != 5 || bi == b5) && (i != 6 || bi == b6)) = true → (bi && bt 104 i) = bt (v104f b6 b5 b3) i := by decide +kernel
theorem v104 (v : Int32) : v &&& 104 = v104f (bt v 6) (bt v 5) (bt v 3) := by
  refine b_ext fun i hi => ?_
  rw [b_and]
  refine v104b i hi _ _ _ _ ?_
  by_cases e3 : i = 3
  · subst e3; simp
  · by_cases e5 : i = 5
    · subst e5; simp
    · by_cases e6 : i = 6
      · subst e6; simp
      · simp [e3, e5, e6]
theorem sA_clear (t1 t0 f : Int32) (b6 b5 b3 : Bool) (h1 : b01 t1) (h0 : b01 t0) (hf : b01 f) : sAf t1 t0 f &&& (v104f b6 b5 b3 ^^^ -1) = sAf (bif b6 then 0 else t1) (bif b5 then 0 else t0) (bif b3 then 0 else f) := by
  rcases h1 with rfl | rfl <;> rcases h0 with rfl | rfl <;> rcases hf with rfl | rfl <;> revert b6 b5 b3 <;> decide
theorem lat0 : ∀ i, i < 32 → ∀ x v : Bool, ((x && bt 65280 i || (v && bt 255 i)) && bt 65535 i) = (x && bt 65280 i || (v && bt 255 i)) := by decide +kernel
theorem lat0r (x v : Int32) : rng ((x &&& 65280) ||| (v &&& 255)) 65536 := by
  have e : (x &&& 65280) ||| (v &&& 255) = ((x &&& 65280) ||| (v &&& 255)) &&& 65535 := b_ext fun i hi => by
    simp only [b_and, b_or]
    exact (lat0 i hi _ _).symm
  rw [e]
  exact rng_and _ 16 rfl
theorem lat1 : ∀ i, i < 32 → ∀ x v : Bool, ((x && bt 255 i || (decide (8 ≤ i) && (v && bt 255 (i - 8)))) && bt 65535 i) = (x && bt 255 i || (decide (8 ≤ i) && (v && bt 255 (i - 8)))) := by decide +kernel
theorem lat1r (x v : Int32) : rng ((x &&& 255) ||| ((v &&& 255) <<< ((8 : Int32) &&& 31))) 65536 := by
  have e : (x &&& 255) ||| ((v &&& 255) <<< ((8 : Int32) &&& 31)) = ((x &&& 255) ||| ((v &&& 255) <<< ((8 : Int32) &&& 31))) &&& 65535 := b_ext fun i hi => by
    have s : bt ((v &&& 255) <<< ((8 : Int32) &&& 31)) i = (decide (8 ≤ i) && (bt v (i - 8) && bt 255 (i - 8))) := (b_shl 8 (by omega) (v &&& 255) hi).trans (by rw [b_and])
    simp only [b_and, b_or, s]
    exact (lat1 i hi _ _).symm
  rw [e]
  exact rng_and _ 16 rfl
theorem clear_eq {N : Nat} {st mt : CS} (h : RK N st mt) (v : Int32) : RK N (cController_write st 5 v) (m_writeDevice mt 524293 v) ∧ KC st (cController_write st 5 v) ∧ KM mt (m_writeDevice mt 524293 v) := by
  obtain ⟨h1, h2, h3, h4, h5, h6, h7, h8, h9, h10, h11, h12⟩ := h
  have e1 : cController_write st 5 v = sI st 2 (gI st 2 &&& ((v &&& 104) ^^^ -1)) := rfl
  have e2 : m_writeDevice mt 524293 v = (if ((v >>> ((3 : Int32) &&& 31)) &&& 1) = 1 then m_writeDevice_b127 mt v 5 0 else m_writeDevice_b127 mt v 5 (gI mt 9)) := rfl
  have q3 : ((v >>> ((3 : Int32) &&& 31)) &&& 1) = 1 ↔ bt v 3 = true := bit1_1 v 3 (by omega)
  have q5 : ((v >>> ((5 : Int32) &&& 31)) &&& 1) = 1 ↔ bt v 5 = true := bit1_1 v 5 (by omega)
  have q6 : ((v >>> ((6 : Int32) &&& 31)) &&& 1) = 1 ↔ bt v 6 = true := bit1_1 v 6 (by omega)
  have z0 : ∀ {x : Int32} {b : Bool}, b01 x → b01 (bif b then 0 else x) := fun {x b} hx => by cases b; exact hx; exact Or.inl rfl
  have e3 : m_writeDevice mt 524293 v = sA (sA (sI mt 9 (bif bt v 3 then 0 else gI mt 9)) 12 (upd (gA mt 12) 0 (bif bt v 5 then 0 else gA mt 12 0))) 12 (upd (upd (gA mt 12) 0 (bif bt v 5 then 0 else gA mt 12 0)) 1 (bif bt v 6 then 0 else gA mt 12 1)) := by
    rw [e2]
    unfold m_writeDevice_b127 m_writeDevice_b154 m_writeDevice_b155 m_writeDevice_b180
    cases c3 : bt v 3 <;> cases c5 : bt v 5 <;> cases c6 : bt v 6 <;> simp only [q3, q5, q6, c3, c5, c6, if_true, if_false, Bool.false_eq_true] <;> rfl
  rw [e1, e3]
  refine ⟨⟨h1, h2, h3, ⟨?_, h4.2⟩, ⟨z0 h5.1, z0 h5.2.1, z0 h5.2.2.1, h5.2.2.2⟩, h6, h7, h8, h9, h10, h11, h12⟩, ⟨rfl, rfl, rfl, rfl, rfl, rfl⟩, ⟨rfl, rfl, rfl, rfl, rfl, rfl⟩⟩
  show gI st 2 &&& ((v &&& 104) ^^^ -1) = sAf (bif bt v 6 then 0 else gA mt 12 1) (bif bt v 5 then 0 else gA mt 12 0) (bif bt v 3 then 0 else gI mt 9)
  rw [h4.1, sA_eq, v104]
  exact sA_clear _ _ _ _ _ _ h5.2.2.1 h5.2.1 h5.1
theorem send_eq {N : Nat} {st mt : CS} (h : RK N st mt) (hN : N < 2 ^ 30) (v : Int32) : RK (N + 1) (cController_write st 1 v) (m_writeDevice mt 524289 v) ∧ KC st (cController_write st 1 v) ∧ KM mt (m_writeDevice mt 524289 v) := by
  obtain ⟨h1, h2, h3, h4, h5, h6, h7, h8, h9, ⟨m, hm, hm2⟩, ⟨n, hn, g1, g2, g3⟩, h12⟩ := h
  have e1 : cController_write st 1 v = cSerial_send st v := rfl
  have e2 : m_writeDevice mt 524289 v = sL (sI (sA mt 16 (upd (gA mt 16) ((gL mt 1 - gL mt 1 / (4000 : Int64) * (4000 : Int64)).toInt32).toNatClampNeg (vp_nar .byte (v.toInt8.toInt32)))) 15 256) 1 (gL mt 1 + 1) := rfl
  have x1 : ((gL st 2).toInt32 &&& 4095).toNatClampNeg = n % 4096 := by rw [g2, lN_i, pk_andN (by omega) 12 rfl, nI_clamp (by omega)]
  have x2 : ((gL mt 1 - gL mt 1 / (4000 : Int64) * (4000 : Int64)).toInt32).toNatClampNeg = n % 4000 := by
    rw [g1, show (4000 : Int64) = lN 4000 from rfl, pk_lRem (by omega) (by omega) (by omega), lN_i, nI_clamp (by omega)]
  rw [e1, e2, x2]
  unfold cSerial_send
  rw [x1]
  refine ⟨⟨h1, h2, h3, ⟨h4.1, ?_, h4.2.2⟩, h5, ⟨h6.1, rfl, ⟨256, by omega, rfl⟩⟩, h7, h8, h9, ⟨m, by omega, hm2⟩, ⟨n + 1, by omega, ?_, ?_, ?_⟩, h12⟩, ⟨rfl, rfl, rfl, rfl, rfl, rfl⟩, ⟨rfl, rfl, rfl, rfl, rfl, rfl⟩⟩
  · show gI st 3 &&& -65 = m_statusB _
    rw [h4.2.1, m_statusB_eq, m_statusB_eq]
    exact vB5 _ _ _
  · show gL mt 1 + 1 = lN (n + 1)
    rw [g1, lN_1]
  · show gL st 2 + 1 = lN (n + 1)
    rw [g2, lN_1]
  · intro i hi hi2
    show upd (gA st 4) (n % 4096) _ (i % 4096) &&& 255 = upd (gA mt 16) (n % 4000) _ (i % 4000) &&& 255
    by_cases c : i = n
    · subst c
      rw [pk_us, pk_us]
    · rw [pk_un (by omega), pk_un (by omega)]
      exact g3 i (by omega) (by omega)
set_option maxHeartbeats 4000000 in
theorem wd_ctl {N : Nat} {st mt : CS} (h : RK N st mt) (hN : N < 2 ^ 30) {i : Nat} (hi : i < 32) (v0 : Int32) : RK (N + 1) (cController_write st (nI i) (v0 &&& 255)) (m_writeDevice mt (nI (524288 + i)) (v0 &&& 255)) ∧ KC st (cController_write st (nI i) (v0 &&& 255)) ∧ KM mt (m_writeDevice mt (nI (524288 + i)) (v0 &&& 255)) := by
  have hM : RK (N + 1) st mt := h.mono (by omega)
  obtain ⟨h1, h2, h3, h4, h5, h6, h7, h8, h9, h10, h11, h12⟩ := id hM
  obtain ⟨t1, t2, t3, t4, t5, t6, t7⟩ := id h8
  have k6 : KC st st ∧ KM mt mt := ⟨KC.rf _, KM.rf _⟩
  rcases (by omega : i = 0 ∨ i = 1 ∨ i = 2 ∨ i = 3 ∨ i = 4 ∨ i = 5 ∨ i = 6 ∨ i = 7 ∨ i = 8 ∨ i = 9 ∨ i = 10 ∨ i = 11 ∨ i = 12 ∨ i = 13 ∨ i = 14 ∨ i = 15 ∨ i = 16 ∨ i = 17 ∨ i = 18 ∨ i = 19 ∨ i = 20 ∨ i = 21 ∨ i = 22 ∨ i = 23 ∨ i = 24 ∨ i = 25 ∨ i = 26 ∨ i = 27 ∨ i = 28 ∨ i = 29 ∨ i = 30 ∨ i = 31) with rfl | rfl | rfl | rfl | rfl | rfl | rfl | rfl | rfl | rfl | rfl | rfl | rfl | rfl | rfl | rfl | rfl | rfl | rfl | rfl | rfl | rfl | rfl | rfl | rfl | rfl | rfl | rfl | rfl | rfl | rfl | rfl
  · have e1 : cController_write st (nI 0) (v0 &&& 255) = st := rfl
    have e2 : m_writeDevice mt (nI (524288 + 0)) (v0 &&& 255) = mt := rfl
    rw [e1, e2]
    exact ⟨hM, k6⟩
  · exact send_eq h hN _
  · have e1 : cController_write st (nI 2) (v0 &&& 255) = st := rfl
    have e2 : m_writeDevice mt (nI (524288 + 2)) (v0 &&& 255) = mt := rfl
    rw [e1, e2]
    exact ⟨hM, k6⟩
  · have e1 : cController_write st (nI 3) (v0 &&& 255) = st := rfl
    have e2 : m_writeDevice mt (nI (524288 + 3)) (v0 &&& 255) = mt := rfl
    rw [e1, e2]
    exact ⟨hM, k6⟩
  · have e1 : cController_write st (nI 4) (v0 &&& 255) = st := rfl
    have e2 : m_writeDevice mt (nI (524288 + 4)) (v0 &&& 255) = mt := rfl
    rw [e1, e2]
    exact ⟨hM, k6⟩
  · have := clear_eq h (v0 &&& 255)
    exact ⟨this.1.mono (by omega), this.2⟩
  · have e1 : cController_write st (nI 6) (v0 &&& 255) = sI st 5 (v0 &&& 255) := rfl
    have e2 : m_writeDevice mt (nI (524288 + 6)) (v0 &&& 255) = sI mt 10 (v0 &&& 255) := rfl
    rw [e1, e2]
    exact ⟨⟨h1, h2, h3, ⟨h4.1, h4.2.1, h4.2.2.1, rfl, h4.2.2.2.2⟩, h5, h6, h7, h8, h9, h10, h11, h12⟩, ⟨rfl, rfl, rfl, rfl, rfl, rfl⟩, ⟨rfl, rfl, rfl, rfl, rfl, rfl⟩⟩
  · have e1 : cController_write st (nI 7) (v0 &&& 255) = st := rfl
    have e2 : m_writeDevice mt (nI (524288 + 7)) (v0 &&& 255) = mt := rfl
    rw [e1, e2]
    exact ⟨hM, k6⟩
  · have e1 : cController_write st (nI 8) (v0 &&& 255) = st := rfl
    have e2 : m_writeDevice mt (nI (524288 + 8)) (v0 &&& 255) = mt := rfl
    rw [e1, e2]
    exact ⟨hM, k6⟩
  · have e1 : cController_write st (nI 9) (v0 &&& 255) = st := rfl
    have e2 : m_writeDevice mt (nI (524288 + 9)) (v0 &&& 255) = mt := rfl
    rw [e1, e2]
    exact ⟨hM, k6⟩
  · have e1 : cController_write st (nI 10) (v0 &&& 255) = sI st 6 (v0 &&& 255) := rfl
    have e2 : m_writeDevice mt (nI (524288 + 10)) (v0 &&& 255) = sI mt 11 (v0 &&& 255) := rfl
    rw [e1, e2]
    exact ⟨⟨h1, h2, h3, ⟨h4.1, h4.2.1, h4.2.2.1, h4.2.2.2.1, rfl, h4.2.2.2.2.2⟩, h5, h6, h7, h8, h9, h10, h11, h12⟩, ⟨rfl, rfl, rfl, rfl, rfl, rfl⟩, ⟨rfl, rfl, rfl, rfl, rfl, rfl⟩⟩
  · have e1 : cController_write st (nI 11) (v0 &&& 255) = st := rfl
    have e2 : m_writeDevice mt (nI (524288 + 11)) (v0 &&& 255) = mt := rfl
    rw [e1, e2]
    exact ⟨hM, k6⟩
  · have e1 : cController_write st (nI 12) (v0 &&& 255) = st := rfl
    have e2 : m_writeDevice mt (nI (524288 + 12)) (v0 &&& 255) = mt := rfl
    rw [e1, e2]
    exact ⟨hM, k6⟩
  · have e1 : cController_write st (nI 13) (v0 &&& 255) = st := rfl
    have e2 : m_writeDevice mt (nI (524288 + 13)) (v0 &&& 255) = mt := rfl
    rw [e1, e2]
    exact ⟨hM, k6⟩
  · have e1 : cController_write st (nI 14) (v0 &&& 255) = sI st 7 (v0 &&& 255) := rfl
    have e2 : m_writeDevice mt (nI (524288 + 14)) (v0 &&& 255) = sI mt 12 (v0 &&& 255) := rfl
    rw [e1, e2]
    exact ⟨⟨h1, h2, h3, ⟨h4.1, h4.2.1, h4.2.2.1, h4.2.2.2.1, h4.2.2.2.2.1, rfl⟩, h5, h6, h7, h8, h9, h10, h11, h12⟩, ⟨rfl, rfl, rfl, rfl, rfl, rfl⟩, ⟨rfl, rfl, rfl, rfl, rfl, rfl⟩⟩
  · have e1 : cController_write st (nI 15) (v0 &&& 255) = st := rfl
    have e2 : m_writeDevice mt (nI (524288 + 15)) (v0 &&& 255) = mt := rfl
    rw [e1, e2]
    exact ⟨hM, k6⟩
  · have e1 : cController_write st (nI 16) (v0 &&& 255) = sI st 18 ((gI st 18 &&& 65280) ||| (v0 &&& 255)) := rfl
    have e2 : m_writeDevice mt (nI (524288 + 16)) (v0 &&& 255) = sA mt 13 (upd (gA mt 13) 0 ((gA mt 13 0 &&& 65280) ||| (v0 &&& 255))) := rfl
    rw [e1, e2]
    refine ⟨⟨h1, h2, h3, h4, h5, h6, h7, ⟨?_, t2, t3, t4, t5, t6, fun x hx => ⟨?_, (t7 x hx).2.1, (t7 x hx).2.2⟩⟩, h9, h10, h11, h12⟩, ⟨rfl, rfl, rfl, rfl, rfl, rfl⟩, ⟨rfl, rfl, rfl, rfl, rfl, rfl⟩⟩
    · show ((gI st 18 &&& 65280) ||| (v0 &&& 255)) = ((gA mt 13 0 &&& 65280) ||| (v0 &&& 255))
      rw [t1]
    · rcases (by omega : x = 0 ∨ x = 1) with rfl | rfl
      · exact lat0r _ _
      · exact (t7 1 (by omega)).1
  · have e1 : cController_write st (nI 17) (v0 &&& 255) = sI st 18 ((gI st 18 &&& 255) ||| ((v0 &&& 255) <<< ((8 : Int32) &&& 31))) := rfl
    have e2 : m_writeDevice mt (nI (524288 + 17)) (v0 &&& 255) = sA mt 13 (upd (gA mt 13) 0 ((gA mt 13 0 &&& 255) ||| ((v0 &&& 255) <<< ((8 : Int32) &&& 31)))) := rfl
    rw [e1, e2]
    refine ⟨⟨h1, h2, h3, h4, h5, h6, h7, ⟨?_, t2, t3, t4, t5, t6, fun x hx => ⟨?_, (t7 x hx).2.1, (t7 x hx).2.2⟩⟩, h9, h10, h11, h12⟩, ⟨rfl, rfl, rfl, rfl, rfl, rfl⟩, ⟨rfl, rfl, rfl, rfl, rfl, rfl⟩⟩
    · show ((gI st 18 &&& 255) ||| ((v0 &&& 255) <<< ((8 : Int32) &&& 31))) = ((gA mt 13 0 &&& 255) ||| ((v0 &&& 255) <<< ((8 : Int32) &&& 31)))
      rw [t1]
    · rcases (by omega : x = 0 ∨ x = 1) with rfl | rfl
      · exact lat1r _ _
      · exact (t7 1 (by omega)).1
  · have e1 : cController_write st (nI 18) (v0 &&& 255) = sI st 19 (gI st 18) := rfl
    have e2 : m_writeDevice mt (nI (524288 + 18)) (v0 &&& 255) = sA mt 14 (upd (gA mt 14) 0 (gA mt 13 0)) := rfl
    rw [e1, e2]
    refine ⟨⟨h1, h2, h3, h4, h5, h6, h7, ⟨t1, ?_, t3, t4, t5, t6, fun x hx => ⟨(t7 x hx).1, ?_, (t7 x hx).2.2⟩⟩, h9, h10, h11, h12⟩, ⟨rfl, rfl, rfl, rfl, rfl, rfl⟩, ⟨rfl, rfl, rfl, rfl, rfl, rfl⟩⟩
    · show (gI st 18) = (gA mt 13 0)
      rw [t1]
    · rcases (by omega : x = 0 ∨ x = 1) with rfl | rfl
      · exact (t7 0 (by omega)).1
      · exact (t7 1 (by omega)).2.1
  · have e1 : cController_write st (nI 19) (v0 &&& 255) = sI st 20 (gI st 19) := rfl
    have e2 : m_writeDevice mt (nI (524288 + 19)) (v0 &&& 255) = sA mt 15 (upd (gA mt 15) 0 (gA mt 14 0)) := rfl
    rw [e1, e2]
    refine ⟨⟨h1, h2, h3, h4, h5, h6, h7, ⟨t1, t2, ?_, t4, t5, t6, fun x hx => ⟨(t7 x hx).1, (t7 x hx).2.1, ?_⟩⟩, h9, h10, h11, h12⟩, ⟨rfl, rfl, rfl, rfl, rfl, rfl⟩, ⟨rfl, rfl, rfl, rfl, rfl, rfl⟩⟩
    · show (gI st 19) = (gA mt 14 0)
      rw [t2]
    · rcases (by omega : x = 0 ∨ x = 1) with rfl | rfl
      · exact (t7 0 (by omega)).2.1
      · exact (t7 1 (by omega)).2.2
  · have e1 : cController_write st (nI 20) (v0 &&& 255) = sI st 21 ((gI st 21 &&& 65280) ||| (v0 &&& 255)) := rfl
    have e2 : m_writeDevice mt (nI (524288 + 20)) (v0 &&& 255) = sA mt 13 (upd (gA mt 13) 1 ((gA mt 13 1 &&& 65280) ||| (v0 &&& 255))) := rfl
    rw [e1, e2]
    refine ⟨⟨h1, h2, h3, h4, h5, h6, h7, ⟨t1, t2, t3, ?_, t5, t6, fun x hx => ⟨?_, (t7 x hx).2.1, (t7 x hx).2.2⟩⟩, h9, h10, h11, h12⟩, ⟨rfl, rfl, rfl, rfl, rfl, rfl⟩, ⟨rfl, rfl, rfl, rfl, rfl, rfl⟩⟩
    · show ((gI st 21 &&& 65280) ||| (v0 &&& 255)) = ((gA mt 13 1 &&& 65280) ||| (v0 &&& 255))
      rw [t4]
    · rcases (by omega : x = 0 ∨ x = 1) with rfl | rfl
      · exact (t7 0 (by omega)).1
      · exact lat0r _ _
  · have e1 : cController_write st (nI 21) (v0 &&& 255) = sI st 21 ((gI st 21 &&& 255) ||| ((v0 &&& 255) <<< ((8 : Int32) &&& 31))) := rfl
    have e2 : m_writeDevice mt (nI (524288 + 21)) (v0 &&& 255) = sA mt 13 (upd (gA mt 13) 1 ((gA mt 13 1 &&& 255) ||| ((v0 &&& 255) <<< ((8 : Int32) &&& 31)))) := rfl
    rw [e1, e2]
    refine ⟨⟨h1, h2, h3, h4, h5, h6, h7, ⟨t1, t2, t3, ?_, t5, t6, fun x hx => ⟨?_, (t7 x hx).2.1, (t7 x hx).2.2⟩⟩, h9, h10, h11, h12⟩, ⟨rfl, rfl, rfl, rfl, rfl, rfl⟩, ⟨rfl, rfl, rfl, rfl, rfl, rfl⟩⟩
    · show ((gI st 21 &&& 255) ||| ((v0 &&& 255) <<< ((8 : Int32) &&& 31))) = ((gA mt 13 1 &&& 255) ||| ((v0 &&& 255) <<< ((8 : Int32) &&& 31)))
      rw [t4]
    · rcases (by omega : x = 0 ∨ x = 1) with rfl | rfl
      · exact (t7 0 (by omega)).1
      · exact lat1r _ _
  · have e1 : cController_write st (nI 22) (v0 &&& 255) = sI st 22 (gI st 21) := rfl
    have e2 : m_writeDevice mt (nI (524288 + 22)) (v0 &&& 255) = sA mt 14 (upd (gA mt 14) 1 (gA mt 13 1)) := rfl
    rw [e1, e2]
    refine ⟨⟨h1, h2, h3, h4, h5, h6, h7, ⟨t1, t2, t3, t4, ?_, t6, fun x hx => ⟨(t7 x hx).1, ?_, (t7 x hx).2.2⟩⟩, h9, h10, h11, h12⟩, ⟨rfl, rfl, rfl, rfl, rfl, rfl⟩, ⟨rfl, rfl, rfl, rfl, rfl, rfl⟩⟩
    · show (gI st 21) = (gA mt 13 1)
      rw [t4]
    · rcases (by omega : x = 0 ∨ x = 1) with rfl | rfl
      · exact (t7 0 (by omega)).2.1
      · exact (t7 1 (by omega)).1
  · have e1 : cController_write st (nI 23) (v0 &&& 255) = sI st 23 (gI st 22) := rfl
    have e2 : m_writeDevice mt (nI (524288 + 23)) (v0 &&& 255) = sA mt 15 (upd (gA mt 15) 1 (gA mt 14 1)) := rfl
    rw [e1, e2]
    refine ⟨⟨h1, h2, h3, h4, h5, h6, h7, ⟨t1, t2, t3, t4, t5, ?_, fun x hx => ⟨(t7 x hx).1, (t7 x hx).2.1, ?_⟩⟩, h9, h10, h11, h12⟩, ⟨rfl, rfl, rfl, rfl, rfl, rfl⟩, ⟨rfl, rfl, rfl, rfl, rfl, rfl⟩⟩
    · show (gI st 22) = (gA mt 14 1)
      rw [t5]
    · rcases (by omega : x = 0 ∨ x = 1) with rfl | rfl
      · exact (t7 0 (by omega)).2.2
      · exact (t7 1 (by omega)).2.1
  · have e1 : cController_write st (nI 24) (v0 &&& 255) = st := rfl
    have e2 : m_writeDevice mt (nI (524288 + 24)) (v0 &&& 255) = mt := rfl
    rw [e1, e2]
    exact ⟨hM, k6⟩
  · have e1 : cController_write st (nI 25) (v0 &&& 255) = st := rfl
    have e2 : m_writeDevice mt (nI (524288 + 25)) (v0 &&& 255) = mt := rfl
    rw [e1, e2]
    exact ⟨hM, k6⟩
  · have e1 : cController_write st (nI 26) (v0 &&& 255) = st := rfl
    have e2 : m_writeDevice mt (nI (524288 + 26)) (v0 &&& 255) = mt := rfl
    rw [e1, e2]
    exact ⟨hM, k6⟩
  · have e1 : cController_write st (nI 27) (v0 &&& 255) = st := rfl
    have e2 : m_writeDevice mt (nI (524288 + 27)) (v0 &&& 255) = mt := rfl
    rw [e1, e2]
    exact ⟨hM, k6⟩
  · have e1 : cController_write st (nI 28) (v0 &&& 255) = st := rfl
    have e2 : m_writeDevice mt (nI (524288 + 28)) (v0 &&& 255) = mt := rfl
    rw [e1, e2]
    exact ⟨hM, k6⟩
  · have e1 : cController_write st (nI 29) (v0 &&& 255) = st := rfl
    have e2 : m_writeDevice mt (nI (524288 + 29)) (v0 &&& 255) = mt := rfl
    rw [e1, e2]
    exact ⟨hM, k6⟩
  · have e1 : cController_write st (nI 30) (v0 &&& 255) = st := rfl
    have e2 : m_writeDevice mt (nI (524288 + 30)) (v0 &&& 255) = mt := rfl
    rw [e1, e2]
    exact ⟨hM, k6⟩
  · have e1 : cController_write st (nI 31) (v0 &&& 255) = st := rfl
    have e2 : m_writeDevice mt (nI (524288 + 31)) (v0 &&& 255) = mt := rfl
    rw [e1, e2]
    exact ⟨hM, k6⟩
