/-! PURE 22: one word or byte moved -/
theorem nI_tn (x : Int32) : nI x.toBitVec.toNat = x := Int32.toBitVec_inj.mp (BitVec.eq_of_toNat_eq (by
  show (BitVec.ofNat 32 x.toBitVec.toNat).toNat = _
  rw [BitVec.toNat_ofNat, Nat.mod_eq_of_lt x.toBitVec.isLt]))
theorem addr_N {y : Int32} (h : ushr y 26 = 0) : ∃ a, a < 67108864 ∧ y = nI a := by
  have e := pk_ushr y 26 26 (by decide)
  have e2 : (ushr y 26).toBitVec.toNat = y.toBitVec.toNat / 2 ^ 26 := e
  rw [h] at e2
  have e3 : y.toBitVec.toNat / 2 ^ 26 = 0 := e2.symm
  exact ⟨y.toBitVec.toNat, by omega, (nI_tn y).symm⟩
theorem t255 : ∀ i, i < 32 → bt 255 i = decide (i < 8) := by decide +kernel
theorem tb255 (v : Int32) {j : Nat} (hj : j < 4) : cProcessor_turned v (nI (8 * j)) &&& 255 = ushr v (nI (8 * j)) &&& 255 := by
  unfold cProcessor_turned
  by_cases c : j = 0
  · subst c
    rw [if_pos (show nI (8 * 0) = 0 from rfl), show nI (8 * 0) = 0 from rfl, ush_0]
  · rw [if_neg (nI_ne0 (n := 8 * j) (by omega) (by omega)), show (32 : Int32) - nI (8 * j) = nI (32 - 8 * j) from pk_sub (a := 32) (by omega)]
    refine b_ext fun i hi => ?_
    rw [b_and, b_and, b_or, t255 i hi]
    by_cases d : i < 8
    · rw [b_shl (32 - 8 * j) (by omega) v hi, decide_eq_false (show ¬ 32 - 8 * j ≤ i by omega), Bool.false_and, Bool.or_false]
    · rw [decide_eq_false d, Bool.and_false, Bool.and_false]
theorem a3_N (a : Nat) : ∃ j, j < 4 ∧ nI a &&& 3 = nI j ∧ (8 : Int32) * (nI a &&& 3) = nI (8 * j) := by
  obtain ⟨j, hj, e⟩ := rng_and (nI a) (m := 3) 2 rfl
  refine ⟨j, hj, e, ?_⟩
  rw [e]
  exact pk_mul 8 j
theorem b_01 (b : Bool) : b01 (bif b then 1 else 0) := by
  cases b
  · exact Or.inl rfl
  · exact Or.inr rfl
theorem KM.give (M : CS) (i : Int32) {j : Nat} (hj : j < 15) (y : Int32) : KM M (m_give M i (nI j) y) := by
  unfold m_give
  rw [if_neg (nI_n15 hj)]
  repeat' split
  all_goals exact ⟨rfl, rfl, rfl, rfl, rfl, rfl⟩
/-- what is loaded, put into its register -/
theorem put_eq {N : Nat} {w : Int32} {S M mt : CS} (h : RI N w S M) (h0 : gI M 0 = gI mt 0) (hB : gB M 0 = gB mt 0) (hL : bt w 20 = true) {jd : Nat} (hjd : jd < 16) (a F y : Int32) :
    o_m_transfer_b370 M (nI jd) y ∧ Dn N mt (cProcessor_transferOne_b275 S a F (nI jd) y) (m_transfer_b370 M (nI jd) y) := by
  have z : ¬ (1 : Int32) = 0 := by decide
  have e : cProcessor_transferOne_b275 S a F (nI jd) y = cProcessor_transferOne_b292 (cProcessor_becomeOrGoTo S (nI jd) y) (nI jd) := by
    unfold cProcessor_transferOne_b275
    rw [is_w h.2.2.2.2 1048576 20 (by decide) (by decide), hL]
    exact if_neg z
  rw [e]
  unfold cProcessor_transferOne_b292 cProcessor_becomeOrGoTo cProcessor_becomeOrGoTo_b14 cProcessor_become m_transfer_b370 o_m_transfer_b370 m_transfer_b389 m_transfer_b401
  by_cases c : jd = 15
  · subst c
    have k15 : nI 15 = 15 := rfl
    have l15 : (15 : Int32) ≤ nI 15 := by decide
    rw [if_pos k15, if_pos k15, if_pos l15, if_pos l15]
    exact ⟨⟨fun _ => trivial, fun q => absurd l15 q⟩, Dn.of (h.goTo y) h0 hB (t := 7) (by omega) (by omega)⟩
  · have k15 : ¬ nI jd = 15 := nI_n15 (by omega)
    have l15 : ¬ (15 : Int32) ≤ nI jd := nI_ge (b := 15) (by omega) (by decide)
    obtain ⟨md, hmd, emd⟩ := mode_N M
    rw [if_neg k15, if_neg k15, if_neg l15, if_neg l15, sg_mode h.sg, emd]
    obtain ⟨v1, v2, v3, v4, v5⟩ := h.give hmd (j := jd) (by omega) y
    exact ⟨⟨fun q => absurd q l15, fun _ => ⟨v1, trivial⟩⟩, Dn.of v2 (by rw [v3]; exact h0) (by rw [v4]; exact hB) (t := 4) (by omega) (by omega)⟩
theorem tr_load {N : Nat} {w : Int32} {st mt : CS} (h : RI N w st mt) (hL : bt w 20 = true) {a : Nat} (ha : a < 67108864) {F W : Int32} (hl : Loc a F W) {jn jd : Nat} (hjd : jd < 16) (ejd : cProcessor_part st 12 = nI jd) {u : Bool} (hu : u = true → jn < 15) (nb : Int32) :
    o_m_transfer_b296 mt (bif bt w 22 then 1 else 0) (bif bt w 20 then 1 else 0) (nI jn) (nI jd) nb (nI a) W ((8 : Int32) * (nI a &&& 3)) (bif u then 1 else 0) ∧ Dn N mt (cProcessor_transferOne_b225 st (nI jn) nb (nI a) F (bif u then 1 else 0)) (m_transfer_b296 mt (bif bt w 22 then 1 else 0) (bif bt w 20 then 1 else 0) (nI jn) (nI jd) nb (nI a) W ((8 : Int32) * (nI a &&& 3)) (bif u then 1 else 0)) := by
  have z : ¬ (1 : Int32) = 0 := by decide
  obtain ⟨S, M, v, e1, hS, h0, kc, km, r1, r2⟩ := rd_eq h ha hl
  obtain ⟨j, hj, ej, ej8⟩ := a3_N a
  -- the value
  obtain ⟨y, ey⟩ : ∃ y, y = (bif bt w 22 then ushr v (nI (8 * j)) &&& 255 else m_turned v (nI (8 * j))) := ⟨_, rfl⟩
  have hc : cProcessor_loaded st F (nI a) = (S, y) := by
    unfold cProcessor_loaded cProcessor_loaded_b9
    rw [e1, sh3_8, ej8]
    show (if cProcessor_is S 4194304 = 0 then (S, cProcessor_turned v (nI (8 * j))) else (S, cProcessor_turned v (nI (8 * j)) &&& 255)) = _
    rw [is_w hS.2.2.2.2 4194304 22 (by decide) (by decide), ey]
    cases bt w 22
    · show (if (0 : Int32) = 0 then _ else _) = (S, m_turned v (nI (8 * j)))
      rw [if_pos rfl, ← turned_eq v (n := 8 * j) (by omega), Nat.mod_eq_of_lt (show 8 * j < 32 by omega)]
    · show (if (1 : Int32) = 0 then _ else _) = (S, ushr v (nI (8 * j)) &&& 255)
      rw [if_neg z, tb255 v hj]
  have hC : cProcessor_transferOne_b225 st (nI jn) nb (nI a) F (bif u then 1 else 0) = cProcessor_transferOne_b261 S (nI jn) nb (nI a) F (bif u then 1 else 0) (nI jd) y := by
    unfold cProcessor_transferOne_b225 cProcessor_transferOne_b252
    rw [is_w h.2.2.2.2 1048576 20 (by decide) (by decide), hL, hc, ejd]
    exact if_neg z
  have hR : m_transfer_b296 mt (bif bt w 22 then 1 else 0) (bif bt w 20 then 1 else 0) (nI jn) (nI jd) nb (nI a) W ((8 : Int32) * (nI a &&& 3)) (bif u then 1 else 0) = m_transfer_b351 M (nI jn) (nI jd) nb (bif u then 1 else 0) y ∧ (o_m_transfer_b351 M (nI jn) (nI jd) nb (bif u then 1 else 0) y → o_m_transfer_b296 mt (bif bt w 22 then 1 else 0) (bif bt w 20 then 1 else 0) (nI jn) (nI jd) nb (nI a) W ((8 : Int32) * (nI a &&& 3)) (bif u then 1 else 0)) := by
    have h325 : ∀ M', m_transfer_b325 M' (bif bt w 22 then 1 else 0) (nI jn) (nI jd) nb (nI (8 * j)) (bif u then 1 else 0) v = m_transfer_b351 M' (nI jn) (nI jd) nb (bif u then 1 else 0) y ∧ (o_m_transfer_b351 M' (nI jn) (nI jd) nb (bif u then 1 else 0) y → o_m_transfer_b325 M' (bif bt w 22 then 1 else 0) (nI jn) (nI jd) nb (nI (8 * j)) (bif u then 1 else 0) v) := by
      intro M'
      unfold m_transfer_b325 o_m_transfer_b325
      rw [ey]
      cases bt w 22
      · exact ⟨if_pos rfl, fun o => ⟨fun _ => o, fun q => absurd rfl q⟩⟩
      · exact ⟨if_neg z, fun o => ⟨fun q => absurd q z, fun _ => o⟩⟩
    unfold m_transfer_b296 o_m_transfer_b296 m_transfer_b315 o_m_transfer_b315
    rw [hL, ej8]
    by_cases c : W = -1
    · obtain ⟨s1, s2⟩ := r1 c
      rw [s2]
      refine ⟨?_, fun o => ⟨fun q => absurd q z, fun _ => ⟨fun _ => ⟨s1, (h325 M).2 o⟩, fun q => absurd c q⟩⟩⟩
      show (if (1 : Int32) = 0 then _ else (if W = -1 then _ else _)) = _
      rw [if_neg z, if_pos c]
      exact (h325 M).1
    · obtain ⟨s1, s2, s3, s4⟩ := r2 c
      rw [← s4, s3]
      refine ⟨?_, fun o => ⟨fun q => absurd q z, fun _ => ⟨fun q => absurd q c, fun _ => ⟨s1, (h325 mt).2 o⟩⟩⟩⟩
      show (if (1 : Int32) = 0 then _ else (if W = -1 then _ else _)) = _
      rw [if_neg z, if_neg c]
      exact (h325 mt).1
  rw [hC, hR.1]
  have hB0 : gB M 0 = gB mt 0 := km.2.2.2.2.2
  unfold cProcessor_transferOne_b261 m_transfer_b351
  have hR2 := hR.2
  unfold o_m_transfer_b351 at hR2
  cases u
  · obtain ⟨p1, p2⟩ := put_eq hS h0 hB0 hL hjd (nI a) F y
    exact ⟨hR2 ⟨fun _ => p1, fun q => absurd rfl q⟩, p2⟩
  · obtain ⟨md, hmd, emd⟩ := mode_N M
    have hj15 := hu rfl
    obtain ⟨v1, v2, v3, v4, v5⟩ := hS.give hmd (j := jn) hj15 nb
    obtain ⟨p1, p2⟩ := put_eq (mt := mt) v2 (by rw [v3]; exact h0) (by rw [v4]; exact hB0) hL hjd (nI a) F y
    rw [emd] at hR2 ⊢
    refine ⟨hR2 ⟨fun q => absurd q z, fun _ => ⟨v1, p1⟩⟩, ?_⟩
    show Dn N mt (if (1 : Int32) = 0 then _ else cProcessor_transferOne_b275 (cProcessor_become S (nI jn) nb) (nI a) F (nI jd) y) (if (1 : Int32) = 0 then _ else _)
    rw [if_neg z, if_neg z]
    unfold cProcessor_become
    rw [sg_mode hS.sg, emd]
    exact p2
theorem tr_store {N : Nat} {w : Int32} {st mt : CS} (h : RI N w st mt) (hN : N < 2 ^ 30) (hL : bt w 20 = false) {a : Nat} (ha : a < 67108864) {F W : Int32} (hl : Loc a F W) {jn jd : Nat} (hjd : jd < 16) (ejd : cProcessor_part st 12 = nI jd) {u : Bool} (hu : u = true → jn < 15) (nb : Int32) :
    o_m_transfer_b296 mt (bif bt w 22 then 1 else 0) (bif bt w 20 then 1 else 0) (nI jn) (nI jd) nb (nI a) W ((8 : Int32) * (nI a &&& 3)) (bif u then 1 else 0) ∧ Dn (N + 1) mt (cProcessor_transferOne_b225 st (nI jn) nb (nI a) F (bif u then 1 else 0)) (m_transfer_b296 mt (bif bt w 22 then 1 else 0) (bif bt w 20 then 1 else 0) (nI jn) (nI jd) nb (nI a) W ((8 : Int32) * (nI a &&& 3)) (bif u then 1 else 0)) := by
  have z : ¬ (1 : Int32) = 0 := by decide
  obtain ⟨md, hmd, emd⟩ := mode_N mt
  have emc : cRegisters_mode st = nI md := (sg_mode h.sg).trans emd
  -- the value that is given
  obtain ⟨y, ey, hg⟩ : ∃ y, cProcessor_given st (nI jd) = y ∧ ((nI jd = 15 → y = (gI mt 1 &&& -67108861) ||| m_ahead mt 12) ∧ (¬ nI jd = 15 → y = m_get mt (m_mode mt) (nI jd) ∧ o_m_get mt (m_mode mt) (nI jd))) := by
    refine ⟨_, rfl, ?_, ?_⟩
    · intro c
      unfold cProcessor_given
      rw [if_pos c]
      exact wsigns_eq h.sg h.2.2.2.1 12
    · intro c
      have c15 : jd < 15 := by
        rcases (by omega : jd < 15 ∨ jd = 15) with q | q
        · exact q
        · exact absurd (by rw [q]; rfl) c
      unfold cProcessor_given
      rw [if_neg c, emc, emd]
      exact get_eq h.1.1 hmd c15
  obtain ⟨x, ex⟩ : ∃ x, x = (bif bt w 22 then byM mt a W y else y) := ⟨_, rfl⟩
  obtain ⟨q1, q2, q3, q4, q5, q6⟩ := wr_eq h hN ha hl x
  -- the reference
  have h449 : m_transfer_b449 mt (bif bt w 22 then 1 else 0) (nI jn) nb (nI a) W ((8 : Int32) * (nI a &&& 3)) (bif u then 1 else 0) y = m_transfer_b529 (wM mt a W x) (nI jn) nb (bif u then 1 else 0) ∧ (o_m_transfer_b529 (wM mt a W x) (nI jn) nb (bif u then 1 else 0) → o_m_transfer_b449 mt (bif bt w 22 then 1 else 0) (nI jn) nb (nI a) W ((8 : Int32) * (nI a &&& 3)) (bif u then 1 else 0) y) := by
    unfold m_transfer_b449 o_m_transfer_b449 m_transfer_b480 o_m_transfer_b480 m_transfer_b483 o_m_transfer_b483 m_transfer_b528 o_m_transfer_b528
    rw [ex] at q5 ⊢
    unfold wM byM at *
    by_cases c : W = -1
    · rw [if_pos c, if_pos c]
      rw [if_pos c] at q5
      cases b22 : bt w 22
      · rw [b22] at q5
        exact ⟨if_pos rfl, fun o => ⟨fun _ => ⟨fun _ => ⟨q5 c, o⟩, fun q => absurd rfl q⟩, fun q => absurd c q⟩⟩
      · rw [b22] at q5
        refine ⟨?_, fun o => ⟨fun _ => ⟨fun q => absurd q z, fun _ => ⟨q5 c, ?_⟩⟩, fun q => absurd c q⟩⟩
        · show (if (1 : Int32) = 0 then _ else _) = m_transfer_b529 (m_writeFar mt (nI a) (if W = -1 then _ else _)) _ _ _
          rw [if_neg z, if_pos c]
        · have o' : o_m_transfer_b529 (m_writeFar mt (nI a) (if W = -1 then (y &&& 255) * 16843009 else _)) (nI jn) nb (bif u then 1 else 0) := o
          rw [if_pos c] at o'
          exact o'
    · rw [if_neg c, if_neg c]
      cases b22 : bt w 22
      · exact ⟨if_pos rfl, fun o => ⟨fun q => absurd q c, fun _ => ⟨fun _ => ⟨q6 c, o⟩, fun q => absurd rfl q⟩⟩⟩
      · refine ⟨?_, fun o => ⟨fun q => absurd q c, fun _ => ⟨fun q => absurd q z, fun _ => ⟨q6 c, q6 c, ?_⟩⟩⟩⟩
        · show (if (1 : Int32) = 0 then _ else _) = m_transfer_b529 (sA mt 5 (upd (gA mt 5) W.toNatClampNeg (if W = -1 then _ else _))) _ _ _
          rw [if_neg z, if_neg c]
        · have o' : o_m_transfer_b529 (sA mt 5 (upd (gA mt 5) W.toNatClampNeg (if W = -1 then _ else _))) (nI jn) nb (bif u then 1 else 0) := o
          rw [if_neg c] at o'
          exact o'
  have hR : m_transfer_b296 mt (bif bt w 22 then 1 else 0) (bif bt w 20 then 1 else 0) (nI jn) (nI jd) nb (nI a) W ((8 : Int32) * (nI a &&& 3)) (bif u then 1 else 0) = m_transfer_b529 (wM mt a W x) (nI jn) nb (bif u then 1 else 0) ∧ (o_m_transfer_b529 (wM mt a W x) (nI jn) nb (bif u then 1 else 0) → o_m_transfer_b296 mt (bif bt w 22 then 1 else 0) (bif bt w 20 then 1 else 0) (nI jn) (nI jd) nb (nI a) W ((8 : Int32) * (nI a &&& 3)) (bif u then 1 else 0)) := by
    unfold m_transfer_b296 o_m_transfer_b296
    rw [hL]
    by_cases c : nI jd = 15
    · rw [hg.1 c] at h449
      refine ⟨?_, fun o => ⟨fun _ => ⟨fun _ => h449.2 o, fun q => absurd c q⟩, fun q => absurd rfl q⟩⟩
      show (if (0 : Int32) = 0 then (if nI jd = 15 then _ else _) else _) = _
      rw [if_pos rfl, if_pos c]
      exact h449.1
    · obtain ⟨g1, g2⟩ := hg.2 c
      rw [g1] at h449
      refine ⟨?_, fun o => ⟨fun _ => ⟨fun q => absurd q c, fun _ => ⟨g2, h449.2 o⟩⟩, fun q => absurd rfl q⟩⟩
      show (if (0 : Int32) = 0 then (if nI jd = 15 then _ else _) else _) = _
      rw [if_pos rfl, if_neg c]
      exact h449.1
  -- the class
  have cW : ∀ S, gI S 32 = w → (S = st ∨ ∃ f, S = sA st 1 f) → cProcessor_transferOne_b275 S (nI a) F (nI jd) y = (cBus_write S F (nI a) x, 4) := by
    intro S hS hf
    have hb : cBus_writeByte S F (nI a) y = cBus_write S F (nI a) (byM mt a W y) := by
      rcases hf with rfl | ⟨f, rfl⟩
      · exact wrb_eq h.1 hl y
      · rw [wrb_sA, wr_sA, wrb_eq h.1 hl y]
    unfold cProcessor_transferOne_b275 cProcessor_transferOne_b328
    rw [is_w hS 1048576 20 (by decide) (by decide), is_w hS 4194304 22 (by decide) (by decide), hL, ex]
    show (if (0 : Int32) = 0 then _ else _) = _
    rw [if_pos rfl]
    cases bt w 22
    · exact if_pos rfl
    · show (if (1 : Int32) = 0 then _ else _) = _
      rw [if_neg z, hb]
      rfl
  have hC : cProcessor_transferOne_b225 st (nI jn) nb (nI a) F (bif u then 1 else 0) = cProcessor_transferOne_b261 st (nI jn) nb (nI a) F (bif u then 1 else 0) (nI jd) y := by
    unfold cProcessor_transferOne_b225
    rw [is_w h.2.2.2.2 1048576 20 (by decide) (by decide), hL, ejd, ey]
    exact if_pos rfl
  have hB0 : gB (wM mt a W x) 0 = gB mt 0 := q4.2.2.2.2.2
  rw [hC, hR.1]
  have hR2 := hR.2
  unfold cProcessor_transferOne_b261 m_transfer_b529
  unfold o_m_transfer_b529 at hR2
  cases u
  · refine ⟨hR2 ⟨fun _ => trivial, fun q => absurd rfl q⟩, ?_⟩
    show Dn (N + 1) mt (if (0 : Int32) = 0 then _ else _) (if (0 : Int32) = 0 then _ else _)
    rw [if_pos rfl, if_pos rfl, cW st h.2.2.2.2 (Or.inl rfl)]
    exact Dn.of q1 q2 hB0 (t := 4) (by omega) (by omega)
  · have hj15 := hu rfl
    have emw : m_mode (wM mt a W x) = nI md := by
      show gI (wM mt a W x) 1 &&& 3 = nI md
      rw [q4.1]
      exact emd
    obtain ⟨v1, v2, v3, v4, v5⟩ := q1.give hmd (j := jn) hj15 nb
    rw [emw] at hR2 ⊢
    refine ⟨hR2 ⟨fun q => absurd q z, fun _ => ⟨v1, trivial⟩⟩, ?_⟩
    show Dn (N + 1) mt (if (1 : Int32) = 0 then _ else cProcessor_transferOne_b275 (cProcessor_become st (nI jn) nb) (nI a) F (nI jd) y) (if (1 : Int32) = 0 then _ else _)
    rw [if_neg z, if_neg z, cW (cProcessor_become st (nI jn) nb) h.2.2.2.2 (Or.inr ⟨_, rfl⟩)]
    have e : cBus_write (cProcessor_become st (nI jn) nb) F (nI a) x = cRegisters_become (cBus_write st F (nI a) x) (nI md) (nI jn) nb := by
      unfold cProcessor_become cRegisters_become
      rw [emc, wr_sA, q3.1]
    rw [e]
    exact Dn.of v2 (by rw [v3]; exact q2) (by rw [v4]; exact hB0) (t := 4) (by omega) (by omega)
