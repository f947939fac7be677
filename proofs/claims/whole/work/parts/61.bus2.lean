/-! PURE 21: the bus inside an instruction -/
theorem sA_comm (st : CS) {k l : Nat} (h : k ≠ l) (f g : Nat → Int32) : sA (sA st k f) l g = sA (sA st l g) k f := by
  have e : (fun j => if j = l then g else if j = k then f else st.2.2.1 j) = (fun j => if j = k then f else if j = l then g else st.2.2.1 j) := by
    funext j
    by_cases c : j = l
    · have d : ¬ j = k := by omega
      rw [if_pos c, if_neg d, if_pos c]
    · rw [if_neg c, if_neg c]
  show (st.1, st.2.1, (fun j => if j = l then g else if j = k then f else st.2.2.1 j), st.2.2.2) = _
  rw [e]
  rfl
theorem ite_sA {p : Prop} [Decidable p] {A A' B B' : CS} {f : Nat → Int32} (hA : A' = sA A 1 f) (hB : B' = sA B 1 f) : (if p then A' else B') = sA (if p then A else B) 1 f := by
  by_cases c : p
  · rw [if_pos c, if_pos c]; exact hA
  · rw [if_neg c, if_neg c]; exact hB
theorem ite_g0 {p : Prop} [Decidable p] {A B : CS} {x : Int32} (hA : gI A 0 = x) (hB : gI B 0 = x) : gI (if p then A else B) 0 = x := by
  by_cases c : p
  · rw [if_pos c]; exact hA
  · rw [if_neg c]; exact hB
theorem ite_p0 {p : Prop} [Decidable p] {A B : CS × Int32} {x : Int32} (hA : gI A.1 0 = x) (hB : gI B.1 0 = x) : gI (if p then A else B).1 0 = x := by
  by_cases c : p
  · rw [if_pos c]; exact hA
  · rw [if_neg c]; exact hB
theorem tim0_sA (st : CS) (f : Nat → Int32) (a b : Int32) : cTimer_write0 (sA st 1 f) a b = sA (cTimer_write0 st a b) 1 f := by
  unfold cTimer_write0
  exact ite_sA rfl (ite_sA rfl (ite_sA rfl rfl))
theorem tim1_sA (st : CS) (f : Nat → Int32) (a b : Int32) : cTimer_write1 (sA st 1 f) a b = sA (cTimer_write1 st a b) 1 f := by
  unfold cTimer_write1
  exact ite_sA rfl (ite_sA rfl (ite_sA rfl rfl))
theorem snd_sA (st : CS) (f : Nat → Int32) (x : Int32) : cSerial_send (sA st 1 f) x = sA (cSerial_send st x) 1 f :=
  sA_comm (sL (sI (sI st 9 (256 : Int32)) 3 ((gI st 3) &&& (-65 : Int32))) 2 ((gL st 2) + (1 : Int64))) (by decide) f _
theorem ctl_sA (st : CS) (f : Nat → Int32) (a b : Int32) : cController_write (sA st 1 f) a b = sA (cController_write st a b) 1 f := by
  unfold cController_write
  refine ite_sA (snd_sA st f b) (ite_sA rfl (ite_sA rfl (ite_sA rfl (ite_sA rfl (ite_sA (tim0_sA st f _ b) (ite_sA (tim0_sA st f _ b) (ite_sA (tim0_sA st f _ b) (ite_sA (tim0_sA st f _ b) (ite_sA (tim1_sA st f _ b) (ite_sA (tim1_sA st f _ b) (ite_sA (tim1_sA st f _ b) (ite_sA (tim1_sA st f _ b) rfl))))))))))))
theorem dw71_sA (st : CS) (f : Nat → Int32) (b y : Int32) : cDisk_write_b71 (sA st 1 f) b y = sA (cDisk_write_b71 st b y) 1 f := by
  unfold cDisk_write_b71
  exact ite_sA (ite_sA rfl rfl) rfl
theorem dw48_sA (st : CS) (f : Nat → Int32) (b : Int32) : cDisk_write_b48 (sA st 1 f) b = sA (cDisk_write_b48 st b) 1 f := by
  unfold cDisk_write_b48 cDisk_write_b66
  exact ite_sA (dw71_sA st f b 1) (ite_sA (dw71_sA st f b 0) (dw71_sA st f b 1))
theorem dsk_sA (st : CS) (f : Nat → Int32) (a b : Int32) : cDisk_write (sA st 1 f) a b = sA (cDisk_write st a b) 1 f := by
  unfold cDisk_write cDisk_write_b66
  exact ite_sA rfl (ite_sA rfl (ite_sA (ite_sA (ite_sA (dw48_sA st f b) (ite_sA (dw48_sA st f b) (dw71_sA st f b 1))) rfl) rfl))
theorem scr_sA (st : CS) (f : Nat → Int32) (x : Int32) : cScreen_written (sA st 1 f) x = sA (cScreen_written st x) 1 f := by
  unfold cScreen_written
  exact ite_sA (ite_sA rfl (ite_sA rfl rfl)) (sA_comm st (by decide) f _)
theorem set_sA (st : CS) (f : Nat → Int32) (x : Int32) : cBus_tellSetting (sA st 1 f) x = sA (cBus_tellSetting st x) 1 f := by
  unfold cBus_tellSetting
  exact ite_sA rfl (ite_sA rfl (ite_sA rfl (ite_sA rfl rfl)))
theorem ent_sA (st : CS) (f : Nat → Int32) (x : Int32) : cEntries_tell (sA st 1 f) x = sA (cEntries_tell st x) 1 f := by
  have e : ∀ g h, sA (sA (sA st 1 f) 3 g) 2 h = sA (sA (sA st 3 g) 2 h) 1 f := fun g h => by
    rw [sA_comm st (show 1 ≠ 3 by decide), sA_comm (sA st 3 g) (show 1 ≠ 2 by decide)]
  unfold cEntries_tell
  exact ite_sA (e _ _) (e _ _)
theorem wr_sA (st : CS) (f : Nat → Int32) (F x v : Int32) : cBus_write (sA st 1 f) F x v = sA (cBus_write st F x v) 1 f := by
  unfold cBus_write
  exact ite_sA (ite_sA (ite_sA (ite_sA (ite_sA (ite_sA rfl (dsk_sA st f _ _)) (ctl_sA st f _ _)) (scr_sA st f v)) (set_sA st f x)) (ent_sA st f x)) (sA_comm st (by decide) f _)
theorem wrb_sA (st : CS) (f : Nat → Int32) (F x v : Int32) : cBus_writeByte (sA st 1 f) F x v = sA (cBus_writeByte st F x v) 1 f := by
  unfold cBus_writeByte
  exact ite_sA (wr_sA st f F x _) (sA_comm st (by decide) f _)
/-! 'thrown' stays -/
theorem g0_t64 (st : CS) (a b : Int32) : gI (m_timer_b64 st a b) 0 = gI st 0 := by unfold m_timer_b64; exact ite_g0 rfl rfl
theorem g0_t47 (st : CS) (a b : Int32) : gI (m_timer_b47 st a b) 0 = gI st 0 := by unfold m_timer_b47; exact ite_g0 (g0_t64 _ _ _) (g0_t64 _ _ _)
theorem g0_t21 (st : CS) (a b c : Int32) : gI (m_timer_b21 st a b c) 0 = gI st 0 := by unfold m_timer_b21; exact ite_g0 (g0_t47 _ _ _) (g0_t47 _ _ _)
theorem g0_t (st : CS) (a b c : Int32) : gI (m_timer st a b c) 0 = gI st 0 := by unfold m_timer; exact ite_g0 (g0_t21 _ _ _ _) (g0_t21 _ _ _ _)
theorem g0_d42 (st : CS) (a b : Int32) : gI (m_disk_b42 st a b) 0 = gI st 0 := by unfold m_disk_b42; exact ite_g0 rfl rfl
theorem g0_d19 (st : CS) (a : Int32) : gI (m_disk_b19 st a) 0 = gI st 0 := by unfold m_disk_b19 m_disk_b37; exact ite_g0 (g0_d42 _ _ _) (ite_g0 (g0_d42 _ _ _) (g0_d42 _ _ _))
theorem g0_d (st : CS) (a : Int32) : gI (m_disk st a) 0 = gI st 0 := by unfold m_disk m_disk_b37; exact ite_g0 (ite_g0 (g0_d19 _ _) (ite_g0 (g0_d19 _ _) (g0_d42 _ _ _))) rfl
theorem g0_203 (st : CS) (a b : Int32) : gI (m_writeDevice_b203 st a b) 0 = gI st 0 := by unfold m_writeDevice_b203; exact ite_g0 rfl rfl
theorem g0_192 (st : CS) (a b : Int32) : gI (m_writeDevice_b192 st a b) 0 = gI st 0 := by unfold m_writeDevice_b192; exact ite_g0 (g0_203 _ _ _) (g0_203 _ _ _)
theorem g0_181 (st : CS) (a b : Int32) : gI (m_writeDevice_b181 st a b) 0 = gI st 0 := by unfold m_writeDevice_b181; exact ite_g0 (g0_192 _ _ _) (g0_192 _ _ _)
theorem g0_180 (st : CS) (a b c d : Int32) : gI (m_writeDevice_b180 st a b c d) 0 = gI st 0 := g0_181 _ _ _
theorem g0_155 (st : CS) (a b : Int32) : gI (m_writeDevice_b155 st a b) 0 = gI st 0 := by unfold m_writeDevice_b155; exact ite_g0 (g0_180 _ _ _ _ _) (g0_180 _ _ _ _ _)
theorem g0_154 (st : CS) (a b c d : Int32) : gI (m_writeDevice_b154 st a b c d) 0 = gI st 0 := g0_155 _ _ _
theorem g0_127 (st : CS) (a b c : Int32) : gI (m_writeDevice_b127 st a b c) 0 = gI st 0 := by unfold m_writeDevice_b127; exact ite_g0 (g0_154 _ _ _ _ _) (g0_154 _ _ _ _ _)
theorem g0_104 (st : CS) (a b : Int32) : gI (m_writeDevice_b104 st a b) 0 = gI st 0 := by unfold m_writeDevice_b104; exact ite_g0 (ite_g0 (g0_127 _ _ _ _) (g0_127 _ _ _ _)) (g0_181 _ _ _)
theorem g0_87 (st : CS) (a b : Int32) : gI (m_writeDevice_b87 st a b) 0 = gI st 0 := g0_104 _ _ _
theorem g0_66 (st : CS) (a b : Int32) : gI (m_writeDevice_b66 st a b) 0 = gI st 0 := by unfold m_writeDevice_b66; exact ite_g0 (g0_87 _ _ _) (g0_104 _ _ _)
theorem g0_36 (st : CS) (a b : Int32) : gI (m_writeDevice_b36 st a b) 0 = gI st 0 := by unfold m_writeDevice_b36; exact ite_g0 (g0_66 _ _ _) ((g0_66 _ _ _).trans (g0_t _ _ _ _))
theorem g0_24 (st : CS) (a b : Int32) : gI (m_writeDevice_b24 st a b) 0 = gI st 0 := by unfold m_writeDevice_b24; exact ite_g0 ((g0_36 _ _ _).trans (g0_d _ _)) (g0_36 _ _ _)
theorem g0_12 (st : CS) (a b : Int32) : gI (m_writeDevice_b12 st a b) 0 = gI st 0 := by unfold m_writeDevice_b12; exact ite_g0 (g0_24 _ _ _) (g0_24 _ _ _)
theorem g0_wd (st : CS) (a b : Int32) : gI (m_writeDevice st a b) 0 = gI st 0 := by unfold m_writeDevice; exact ite_g0 (g0_12 _ _ _) (g0_12 _ _ _)
theorem g0_wf (st : CS) (a b : Int32) : gI (m_writeFar st a b) 0 = gI st 0 := by
  unfold m_writeFar
  refine ite_g0 (ite_g0 (ite_g0 ?_ (ite_g0 ?_ ?_)) (ite_g0 ?_ ?_)) (g0_wd _ _ _)
  · unfold m_writeFar_b163 m_writeFar_b199; exact ite_g0 rfl rfl
  · unfold m_writeFar_b117 m_writeFar_b143; exact ite_g0 rfl rfl
  · unfold m_writeFar_b117 m_writeFar_b143; exact ite_g0 rfl rfl
  · unfold m_writeFar_b52 m_writeFar_b67 m_writeFar_b82; exact ite_g0 (ite_g0 rfl rfl) (ite_g0 rfl rfl)
  · unfold m_writeFar_b52 m_writeFar_b67 m_writeFar_b82; exact ite_g0 (ite_g0 rfl rfl) (ite_g0 rfl rfl)
theorem g0_rf (st : CS) (a : Int32) : gI (m_readFar st a).1 0 = gI st 0 := by
  unfold m_readFar m_readFar_b32
  exact ite_p0 (ite_p0 (ite_p0 rfl rfl) (ite_p0 rfl rfl)) rfl
/-! a place that was found -/
def Loc (a : Nat) (F W : Int32) : Prop := (∃ k, k < 16384 ∧ a < 50331648 ∧ F = nI k ∧ W = nI k) ∨ (50331648 ≤ a ∧ F = -2 ∧ W = -1)
theorem RI.kk {N N' : Nat} {w : Int32} {st mt S M : CS} (h : RI N w st mt) (hK : RK N' S M) (k1 : KC st S) (k2 : KM mt M) : RI N' w S M := by
  obtain ⟨-, h2, h3, h4, h5⟩ := h
  obtain ⟨a1, -, a3, a4, -, -⟩ := k1
  obtain ⟨b1, b2, b3, -, -, -⟩ := k2
  exact ⟨hK, by rw [a1, b1, b3]; exact h2, by rw [b3]; exact h3, by rw [a3, b2]; exact h4, by rw [a4]; exact h5⟩
theorem RI.mono {N N' : Nat} {w : Int32} {st mt : CS} (h : RI N w st mt) (hN : N ≤ N') : RI N' w st mt := ⟨h.1.mono hN, h.2⟩
theorem rd_eq {N : Nat} {w : Int32} {st mt : CS} (h : RI N w st mt) {a : Nat} (ha : a < 67108864) {F W : Int32} (hl : Loc a F W) :
    ∃ S M v, cBus_read st F (nI a) = (S, v) ∧ RI N w S M ∧ gI M 0 = gI mt 0 ∧ KC st S ∧ KM mt M ∧ (W = -1 → o_m_readFar mt (nI a) ∧ m_readFar mt (nI a) = (M, v)) ∧ (¬ W = -1 → vp_in W 16384 ∧ S = st ∧ M = mt ∧ v = gA mt 5 W.toNatClampNeg) := by
  rcases hl with ⟨k, hk, -, rfl, rfl⟩ | ⟨h0, rfl, rfl⟩
  · refine ⟨st, mt, gA mt 5 k, ?_, h, rfl, KC.rf _, KM.rf _, fun q => absurd q (nI_m1 (by omega)), fun _ => ⟨vp_in_nI hk (by decide), rfl, rfl, by rw [nI_clamp (by omega)]⟩⟩
    unfold cBus_read
    rw [if_neg (m_inw hk), nI_clamp (by omega), h.1.2.1.1 k hk]
  · obtain ⟨a1, a2, a3, a4, a5⟩ := read_far h.1 h0 ha
    exact ⟨(cBus_read st (-2) (nI a)).1, (m_readFar mt (nI a)).1, (cBus_read st (-2) (nI a)).2, Prod.ext rfl rfl, h.kk a3 a4 a5, g0_rf _ _, a4, a5, fun _ => ⟨a1, Prod.ext rfl a2.symm⟩, fun q => absurd rfl q⟩
theorem RMem.w {N : Nat} {st mt : CS} (h : RK N st mt) (k : Nat) (v : Int32) : RK N (sA st 0 (upd (gA st 0) k v)) (sA mt 5 (upd (gA mt 5) k v)) := by
  obtain ⟨h1, h2, h3⟩ := h
  exact ⟨h1, ⟨fun j hj => upd_eq h2.1 j hj, h2.2⟩, h3⟩
def wM (mt : CS) (a : Nat) (W v : Int32) : CS := if W = -1 then m_writeFar mt (nI a) v else sA mt 5 (upd (gA mt 5) W.toNatClampNeg v)
theorem wr_eq {N : Nat} {w : Int32} {st mt : CS} (h : RI N w st mt) (hN : N < 2 ^ 30) {a : Nat} (ha : a < 67108864) {F W : Int32} (hl : Loc a F W) (v : Int32) :
    RI (N + 1) w (cBus_write st F (nI a) v) (wM mt a W v) ∧ gI (wM mt a W v) 0 = gI mt 0 ∧ KC st (cBus_write st F (nI a) v) ∧ KM mt (wM mt a W v) ∧ (W = -1 → o_m_writeFar mt (nI a) v) ∧ (¬ W = -1 → vp_in W 16384) := by
  unfold wM
  rcases hl with ⟨k, hk, -, rfl, rfl⟩ | ⟨h0, rfl, rfl⟩
  · have n1 : ¬ nI k = -1 := nI_m1 (by omega)
    have e : cBus_write st (nI k) (nI a) v = sA st 0 (upd (gA st 0) k v) := by
      unfold cBus_write
      rw [if_neg (m_inw hk), nI_clamp (by omega)]
    rw [if_neg n1, e, nI_clamp (by omega)]
    have k1 : KC st (sA st 0 (upd (gA st 0) k v)) := ⟨rfl, rfl, rfl, rfl, rfl, rfl⟩
    have k2 : KM mt (sA mt 5 (upd (gA mt 5) k v)) := ⟨rfl, rfl, rfl, rfl, rfl, rfl⟩
    exact ⟨h.kk ((RMem.w h.1 k v).mono (by omega)) k1 k2, rfl, k1, k2, fun q => absurd q n1, fun _ => vp_in_nI hk (by decide)⟩
  · rw [if_pos rfl]
    obtain ⟨a1, a2, a3, a4⟩ := write_far h.1 hN h0 ha v
    exact ⟨h.kk a2 a3 a4, g0_wf _ _ _, a3, a4, fun _ => a1, fun q => absurd rfl q⟩
/-- a byte, stored -/
def byM (mt : CS) (a : Nat) (W v : Int32) : Int32 := if W = -1 then (v &&& 255) * 16843009 else (((gA mt 5) W.toNatClampNeg) &&& ((255 <<< (((8 : Int32) * (nI a &&& 3)) &&& 31)) ^^^ -1)) ||| ((v &&& 255) <<< (((8 : Int32) * (nI a &&& 3)) &&& 31))
theorem sh3_8 (a : Nat) : (nI a &&& 3) <<< ((3 : Int32) &&& 31) = (8 : Int32) * (nI a &&& 3) := by
  obtain ⟨j, hj, e⟩ := rng_and (nI a) (m := 3) 2 rfl
  rw [e]
  rcases (by omega : j = 0 ∨ j = 1 ∨ j = 2 ∨ j = 3) with rfl | rfl | rfl | rfl <;> decide
theorem wrb_eq {N : Nat} {st mt : CS} (h : RK N st mt) {a : Nat} {F W : Int32} (hl : Loc a F W) (v : Int32) : cBus_writeByte st F (nI a) v = cBus_write st F (nI a) (byM mt a W v) := by
  unfold cBus_writeByte byM
  rcases hl with ⟨k, hk, -, rfl, rfl⟩ | ⟨h0, rfl, rfl⟩
  · have n1 : ¬ nI k = -1 := nI_m1 (by omega)
    rw [if_neg (m_inw hk), if_neg n1, sh3_8]
    unfold cBus_write
    rw [if_neg (m_inw hk), nI_clamp (by omega), h.2.1.1 k hk]
  · rw [if_pos m_in2, if_pos rfl]
