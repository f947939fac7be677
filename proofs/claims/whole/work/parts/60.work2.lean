/-! PURE 20: instructions that work, whole -/
theorem op2_I {st mt : CS} {w : Int32} (hs : SG st mt) (hw : gI st 32 = w) (x2 x3 x4 x6 x9 y0 : Int32) : ∃ c y, b01 c ∧ cProcessor_turnedByte st = (sI st 33 c, y) ∧ m_work_b187 mt w x2 x3 x4 1 x6 x9 y0 = m_work_b315 (sI mt 4 c) w x2 x3 x4 x6 x9 y ∧ (o_m_work_b315 (sI mt 4 c) w x2 x3 x4 x6 x9 y → o_m_work_b187 mt w x2 x3 x4 1 x6 x9 y0) := by
  have i1 : m_is mt 29 = 0 ∨ m_is mt 29 = 1 := m_is_01 mt 29 (by decide)
  have z : ¬ (1 : Int32) = 0 := by decide
  obtain ⟨j, hj, ej, et⟩ := tb_eq hs hw
  unfold m_work_b187 o_m_work_b187 m_work_b250 o_m_work_b250
  rw [ej, show (2 : Int32) * nI j = nI (2 * j) from pk_mul 2 j, if_neg z]
  simp only [sI_sI]
  by_cases n0 : nI (2 * j) = 0
  · rw [if_pos n0] at et ⊢
    exact ⟨_, _, i1, et, rfl, fun o => ⟨i1, fun q => absurd q z, fun _ => ⟨fun _ => ⟨i1, o⟩, fun q => absurd n0 q⟩⟩⟩
  · rw [if_neg n0] at et ⊢
    by_cases c : 0 ≤ m_turned (w &&& 255) (nI (2 * j))
    · rw [if_pos c] at et ⊢
      exact ⟨_, _, Or.inl rfl, et, rfl, fun o => ⟨i1, fun q => absurd q z, fun _ => ⟨fun q => absurd q n0, fun _ => ⟨fun _ => ⟨by decide, o⟩, fun q => absurd c q⟩⟩⟩⟩
    · rw [if_neg c] at et ⊢
      exact ⟨_, _, Or.inr rfl, et, rfl, fun o => ⟨i1, fun q => absurd q z, fun _ => ⟨fun q => absurd q n0, fun _ => ⟨fun q => absurd q c, fun _ => ⟨by decide, o⟩⟩⟩⟩⟩
theorem op2_R {N : Nat} {w : Int32} {st mt : CS} (h : RI N w st mt) {r : Int32} (hr : b01 r) (x2 x3 x4 x9 y0 : Int32) : ∃ c y, b01 c ∧ cProcessor_shiftedRegister_b26 st r y0 = (sI st 33 c, y) ∧ m_work_b187 mt w x2 x3 x4 0 r x9 y0 = m_work_b315 (sI mt 4 c) w x2 x3 x4 r x9 y ∧ (o_m_work_b315 (sI mt 4 c) w x2 x3 x4 r x9 y → o_m_work_b187 mt w x2 x3 x4 0 r x9 y0) := by
  have i1 : m_is mt 29 = 0 ∨ m_is mt 29 = 1 := m_is_01 mt 29 (by decide)
  have z : ¬ (1 : Int32) = 0 := by decide
  have hw : gI st 32 = w := h.2.2.2.2
  have hs' : SG st (sI mt 4 (m_is mt 29)) := h.sg
  unfold m_work_b187 o_m_work_b187 m_work_b313 o_m_work_b313 m_work_b301 o_m_work_b301 cProcessor_shiftedRegister_b26
  rcases hr with rfl | rfl
  · obtain ⟨c, y, b, e1, e2, e3⟩ := bn_eq hs' hw y0
    rw [sI_sI] at e2
    rw [if_pos rfl, if_pos rfl, if_pos rfl, e1, e2]
    exact ⟨c, y, b, rfl, rfl, fun o => ⟨i1, fun _ => ⟨fun _ => ⟨e3, o⟩, fun q => absurd rfl q⟩, fun q => absurd rfl q⟩⟩
  · rw [if_neg z, if_pos rfl, if_neg z]
    obtain ⟨j, hj, ej⟩ := rng_and (ushr w 8) (m := 15) 4 rfl
    have ej' : (w >>> ((8 : Int32) &&& 31)) &&& 15 = nI j := by rw [f_8]; exact ej
    obtain ⟨b, hb, eb⟩ := rng_and (ushr w 5) (m := 3) 2 rfl
    have eb' : (w >>> ((5 : Int32) &&& 31)) &&& 3 = nI b := by rw [f_5]; exact eb
    obtain ⟨p1, p2⟩ := op_eq h.1 h.sg h.2.2.2.1 hj
    have q1 : m_operand (sI mt 4 (m_is mt 29)) (nI j) = m_operand mt (nI j) := rfl
    have q2 : o_m_operand (sI mt 4 (m_is mt 29)) (nI j) := p2
    obtain ⟨n, hn, en⟩ := rng_and (m_operand mt (nI j)) (m := 255) 8 rfl
    have ep : cProcessor_part st 8 = nI j := by unfold cProcessor_part; rw [hw]; exact ej
    rw [hw, ep, p1, ej', eb', eb, q1, en]
    by_cases n0 : n = 0
    · subst n0
      have k0 : nI 0 = 0 := rfl
      rw [if_pos k0, k0, sh_0, sg_carry h.sg]
      exact ⟨_, _, i1, rfl, rfl, fun o => ⟨i1, fun _ => ⟨fun q => absurd q z, fun _ => ⟨q2, fun _ => o, fun q => absurd rfl q⟩⟩, fun q => absurd rfl q⟩⟩
    · have k0 : ¬ nI n = 0 := nI_ne0 (by omega) (by omega)
      obtain ⟨c, y, b1, e1, e2, e3⟩ := sh_eq st (sI mt 4 (m_is mt 29)) y0 hb (n := n) (by omega) hn
      rw [sI_sI] at e2
      rw [if_neg k0, e1, e2]
      exact ⟨c, y, b1, rfl, rfl, fun o => ⟨i1, fun _ => ⟨fun q => absurd q z, fun _ => ⟨q2, fun q => absurd q k0, fun _ => ⟨e3, o⟩⟩⟩, fun q => absurd rfl q⟩⟩
theorem c104_is (st : CS) (c op t r ah y : Int32) : cProcessor_work_b104 (sI st 33 c) op t r ah y = cProcessor_work_b124 (sI st 33 c) op t r ah y (bif bt (gA st 1 15) 28 then 1 else 0) := by
  unfold cProcessor_work_b104
  rw [show cRegisters_has (sI st 33 c) 268435456 = (bif bt (gA st 1 15) 28 then 1 else 0) from has_b (sI st 33 c) 28 (by decide)]
  cases bt (gA st 1 15) 28
  · exact if_pos rfl
  · exact if_neg (by decide)
theorem work_in {N : Nat} {w : Int32} {st mt : CS} (h : RI N w st mt) {op : Nat} (hop : op < 16) {t r : Int32} (ht : b01 t) (hr : b01 r) (ah : Int32) :
    o_m_work_b107 mt w (nI op) (bif bt w 20 then 1 else 0) t (bif bt w 25 then 1 else 0) r ah ∧ Dn N mt (cProcessor_work_b79 st (nI op) t r ah) (m_work_b107 mt w (nI op) (bif bt w 20 then 1 else 0) t (bif bt w 25 then 1 else 0) r ah) := by
  have hw : gI st 32 = w := h.2.2.2.2
  obtain ⟨jn, hjn, en⟩ := rng_and (ushr w 16) (m := 15) 4 rfl
  have en' : (w >>> ((16 : Int32) &&& 31)) &&& 15 = nI jn := by rw [f_16]; exact en
  obtain ⟨jm, hjm, em⟩ := rng_and w (m := 15) 4 rfl
  obtain ⟨a1, a2⟩ := op12_eq h.1 h.sg h.2.2.2.1 hjn ah
  obtain ⟨b1, b2⟩ := op12_eq h.1 h.sg h.2.2.2.1 hjm ah
  have hR : ∃ b, m_work_b107 mt w (nI op) (bif bt w 20 then 1 else 0) t (bif bt w 25 then 1 else 0) r ah = m_work_b187 mt w (nI op) (bif bt w 20 then 1 else 0) t (bif bt w 25 then 1 else 0) r (cProcessor_operand st (nI jn) ah) b ∧ (o_m_work_b187 mt w (nI op) (bif bt w 20 then 1 else 0) t (bif bt w 25 then 1 else 0) r (cProcessor_operand st (nI jn) ah) b → o_m_work_b107 mt w (nI op) (bif bt w 20 then 1 else 0) t (bif bt w 25 then 1 else 0) r ah) ∧ cProcessor_shiftedRegister st r ah = cProcessor_shiftedRegister_b26 st r b := by
    have ep : cProcessor_part st 0 = nI jm := by unfold cProcessor_part; rw [hw, ush_0]; exact em
    have hS : cProcessor_shiftedRegister st r ah = cProcessor_shiftedRegister_b26 st r (if nI jm = 15 then (gI mt 1 &&& -67108861) ||| m_ahead mt ah else m_get mt (m_mode mt) (nI jm)) := by
      unfold cProcessor_shiftedRegister
      rw [ep, b1, wsigns_eq h.sg h.2.2.2.1]
      by_cases cm : nI jm = 15
      · rw [if_pos cm, if_pos cm]
      · rw [if_neg cm, if_neg cm, if_neg cm]
    refine ⟨_, ?_, ?_, hS⟩
    · unfold m_work_b107 m_work_b151
      rw [en', em, a1]
      by_cases cn : nI jn = 15
      · rw [if_pos cn, if_pos cn]
        by_cases cm : nI jm = 15
        · rw [if_pos cm, if_pos cm]
        · rw [if_neg cm, if_neg cm]
      · rw [if_neg cn, if_neg cn]
        by_cases cm : nI jm = 15
        · rw [if_pos cm, if_pos cm]
        · rw [if_neg cm, if_neg cm]
    · unfold o_m_work_b107 o_m_work_b151
      rw [en', em, a1]
      intro o
      by_cases cm : nI jm = 15
      · rw [if_pos cm] at o
        by_cases cn : nI jn = 15
        · rw [if_pos cn] at o
          exact ⟨fun _ => ⟨fun _ => o, fun q => absurd cm q⟩, fun q => absurd cn q⟩
        · rw [if_neg cn] at o
          exact ⟨fun q => absurd q cn, fun _ => ⟨a2 cn, fun _ => o, fun q => absurd cm q⟩⟩
      · rw [if_neg cm] at o
        by_cases cn : nI jn = 15
        · rw [if_pos cn] at o
          exact ⟨fun _ => ⟨fun q => absurd q cm, fun _ => ⟨b2 cm, o⟩⟩, fun q => absurd cn q⟩
        · rw [if_neg cn] at o
          exact ⟨fun q => absurd q cn, fun _ => ⟨a2 cn, fun q => absurd q cm, fun _ => ⟨b2 cm, o⟩⟩⟩
  obtain ⟨b, r1, r2, r3⟩ := hR
  have h34 : bt (gA st 1 15) 28 = bt (gI mt 1) 28 := sg_bit h.sg (by decide)
  have fin : ∀ c y, o_m_work_b315 (sI mt 4 c) w (nI op) (bif bt w 20 then 1 else 0) t r (cProcessor_operand st (nI jn) ah) y ∧ Dn N mt (cProcessor_work_b104 (sI st 33 c) (nI op) t r ah y) (m_work_b315 (sI mt 4 c) w (nI op) (bif bt w 20 then 1 else 0) t r (cProcessor_operand st (nI jn) ah) y) := by
    intro c y
    rw [c104_is]
    have ep : cProcessor_part (sI (sI st 33 c) 34 (bif bt (gA st 1 15) 28 then 1 else 0)) 16 = nI jn := by
      show (ushr (gI st 32) 16) &&& 15 = nI jn
      rw [hw]; exact en
    unfold cProcessor_work_b124
    rw [ep]
    have eo : cProcessor_operand (sI (sI st 33 c) 34 (bif bt (gA st 1 15) 28 then 1 else 0)) (nI jn) ah = cProcessor_operand st (nI jn) ah := rfl
    rw [eo]
    have q34 : decide (¬ gI (sI (sI st 33 c) 34 (bif bt (gA st 1 15) 28 then 1 else 0)) 34 = 0) = bt (gI mt 1) 28 := by
      show decide (¬ (bif bt (gA st 1 15) 28 then (1 : Int32) else 0) = 0) = _
      rw [← h34]
      cases bt (gA st 1 15) 28 <;> decide
    have q33 : gI (sI (sI st 33 c) 34 (bif bt (gA st 1 15) 28 then 1 else 0)) 33 = c := rfl
    have qF : Fr [33, 34] [] [] st (sI (sI st 33 c) 34 (bif bt (gA st 1 15) 28 then 1 else 0)) := (Fr.sI _ _ _ _ _ _ (by decide)).tr (Fr.sI _ _ _ _ _ _ (by decide))
    exact work_end h qF q33 q34 hop (cProcessor_operand st (nI jn) ah) y ht hr
  rw [r1]
  unfold cProcessor_work_b79 cProcessor_work_b94
  rw [is_w hw 33554432 25 (by decide) (by decide)]
  cases b25 : bt w 25
  · rw [b25] at r2
    obtain ⟨c, y, -, e1, e2, e3⟩ := op2_R h hr (nI op) (bif bt w 20 then 1 else 0) t (cProcessor_operand st (nI jn) ah) b
    show _ ∧ Dn N mt (if (0 : Int32) = 0 then _ else _) (m_work_b187 mt w (nI op) (bif bt w 20 then 1 else 0) t 0 r (cProcessor_operand st (nI jn) ah) b)
    rw [if_pos rfl, r3, e1, e2]
    obtain ⟨f1, f2⟩ := fin c y
    exact ⟨r2 (e3 f1), f2⟩
  · rw [b25] at r2
    obtain ⟨c, y, -, e1, e2, e3⟩ := op2_I h.sg hw (nI op) (bif bt w 20 then 1 else 0) t r (cProcessor_operand st (nI jn) ah) b
    show _ ∧ Dn N mt (if (1 : Int32) = 0 then _ else _) (m_work_b187 mt w (nI op) (bif bt w 20 then 1 else 0) t 1 r (cProcessor_operand st (nI jn) ah) b)
    rw [if_neg (by decide), e1, e2]
    obtain ⟨f1, f2⟩ := fin c y
    exact ⟨r2 (e3 f1), f2⟩
theorem c44_is {st : CS} {w : Int32} (hw : gI st 32 = w) (op t : Int32) : cProcessor_work_b44 st op t = bif bt w 25 then cProcessor_work_b79 st op t 0 8 else (bif bt w 4 then cProcessor_work_b79 st op t 1 12 else cProcessor_work_b79 st op t 0 8) := by
  have z : ¬ (1 : Int32) = 0 := by decide
  unfold cProcessor_work_b44 cProcessor_work_b66 cProcessor_work_b67
  rw [is_w hw 33554432 25 (by decide) (by decide), is_w hw 16 4 (by decide) (by decide)]
  cases bt w 25 <;> cases bt w 4 <;> simp only [cond_false, cond_true, if_true, if_false, z]
theorem m57_is (mt : CS) (w op s t : Int32) : m_work_b57 mt w op s t = (bif bt w 25 then m_work_b107 mt w op s t 1 0 8 else (bif bt w 4 then m_work_b107 mt w op s t 0 1 12 else m_work_b107 mt w op s t 0 0 8)) := by
  have z : ¬ (1 : Int32) = 0 := by decide
  unfold m_work_b57 m_work_b72 m_work_b92 m_work_b93
  cases b25 : bt w 25
  · have n25 : ¬ (w >>> ((25 : Int32) &&& 31)) &&& 1 = 1 := ref_0 (k := 25) (by decide) b25
    cases b4 : bt w 4
    · have n4 : ¬ (w >>> ((4 : Int32) &&& 31)) &&& 1 = 1 := ref_0 (k := 4) (by decide) b4
      rw [if_neg n25, if_pos rfl, if_neg n4, if_pos rfl]
      rfl
    · have n4 : (w >>> ((4 : Int32) &&& 31)) &&& 1 = 1 := ref_1 (k := 4) (by decide) b4
      rw [if_neg n25, if_pos rfl, if_pos n4, if_neg z]
      rfl
  · have n25 : (w >>> ((25 : Int32) &&& 31)) &&& 1 = 1 := ref_1 (k := 25) (by decide) b25
    rw [if_pos n25, if_neg z, if_pos rfl]
    rfl
theorem o57_is {mt : CS} {w op s t : Int32} (o : (bt w 25 = true → o_m_work_b107 mt w op s t 1 0 8) ∧ (bt w 25 = false → bt w 4 = true → o_m_work_b107 mt w op s t 0 1 12) ∧ (bt w 25 = false → bt w 4 = false → o_m_work_b107 mt w op s t 0 0 8)) : o_m_work_b57 mt w op s t := by
  have z : ¬ (1 : Int32) = 0 := by decide
  obtain ⟨o1, o2, o3⟩ := o
  unfold o_m_work_b57 o_m_work_b72 o_m_work_b92 o_m_work_b93
  cases b25 : bt w 25
  · have n25 : ¬ (w >>> ((25 : Int32) &&& 31)) &&& 1 = 1 := ref_0 (k := 25) (by decide) b25
    cases b4 : bt w 4
    · have n4 : ¬ (w >>> ((4 : Int32) &&& 31)) &&& 1 = 1 := ref_0 (k := 4) (by decide) b4
      exact ⟨fun q => absurd q n25, fun _ => ⟨fun _ => ⟨fun q => absurd q n4, fun _ => ⟨fun _ => o3 b25 b4, fun q => absurd rfl q⟩⟩, fun q => absurd rfl q⟩⟩
    · have n4 : (w >>> ((4 : Int32) &&& 31)) &&& 1 = 1 := ref_1 (k := 4) (by decide) b4
      exact ⟨fun q => absurd q n25, fun _ => ⟨fun _ => ⟨fun _ => ⟨fun q => absurd q z, fun _ => o2 b25 b4⟩, fun q => absurd n4 q⟩, fun q => absurd rfl q⟩⟩
  · have n25 : (w >>> ((25 : Int32) &&& 31)) &&& 1 = 1 := ref_1 (k := 25) (by decide) b25
    exact ⟨fun _ => ⟨fun q => absurd q z, fun _ => ⟨fun _ => o1 b25, fun q => absurd rfl q⟩⟩, fun q => absurd n25 q⟩
theorem work_mid {N : Nat} {w : Int32} {st mt : CS} (h : RI N w st mt) {op : Nat} (hop : op < 16) {t : Int32} (ht : b01 t) :
    o_m_work_b57 mt w (nI op) (bif bt w 20 then 1 else 0) t ∧ Dn N mt (cProcessor_work_b44 st (nI op) t) (m_work_b57 mt w (nI op) (bif bt w 20 then 1 else 0) t) := by
  have hw : gI st 32 = w := h.2.2.2.2
  have W0 := work_in h hop ht (Or.inl rfl : b01 0) 8
  have W1 := work_in h hop ht (Or.inr rfl : b01 1) 12
  rw [c44_is hw, m57_is]
  refine ⟨o57_is ⟨fun q => ?_, fun q _ => ?_, fun q _ => ?_⟩, ?_⟩
  · rw [q] at W0; exact W0.1
  · rw [q] at W1; exact W1.1
  · rw [q] at W0; exact W0.1
  · cases b25 : bt w 25
    · rw [b25] at W0 W1
      cases b4 : bt w 4
      · exact W0.2
      · exact W1.2
    · rw [b25] at W0
      exact W0.2
theorem undef_eq {N : Nat} {w : Int32} {st mt : CS} (h : RI N w st mt) : o_m_undefined mt ∧ Dn N mt (cProcessor_take st 0) (m_undefined mt) := by
  obtain ⟨a, b⟩ := trap_eq h.1 h.sg h.2.2.2.1 (k := 0) (by decide)
  exact ⟨⟨a, trivial⟩, b⟩
theorem work_eq {N : Nat} {w : Int32} {st mt : CS} (h : RI N w st mt) : o_m_work mt w ∧ Dn N mt (cProcessor_work st) (m_work mt w) := by
  have hw : gI st 32 = w := h.2.2.2.2
  have z : ¬ (1 : Int32) = 0 := by decide
  obtain ⟨op, hop, eo⟩ := rng_and (ushr w 21) (m := 15) 4 rfl
  have eo' : (w >>> ((21 : Int32) &&& 31)) &&& 15 = nI op := by rw [f_21]; exact eo
  have ep : cProcessor_part st 21 = nI op := by unfold cProcessor_part; rw [hw]; exact eo
  have hR : m_work mt w = m_work_b23 mt w (nI op) (bif bt w 20 then 1 else 0) ∧ (o_m_work_b23 mt w (nI op) (bif bt w 20 then 1 else 0) → o_m_work mt w) := by
    unfold m_work o_m_work
    rw [eo']
    cases b20 : bt w 20
    · have n : ¬ (w >>> ((20 : Int32) &&& 31)) &&& 1 = 1 := ref_0 (k := 20) (by decide) b20
      rw [if_neg n]
      exact ⟨rfl, fun o => ⟨fun q => absurd q n, fun _ => o⟩⟩
    · have n : (w >>> ((20 : Int32) &&& 31)) &&& 1 = 1 := ref_1 (k := 20) (by decide) b20
      rw [if_pos n]
      exact ⟨rfl, fun o => ⟨fun _ => o, fun q => absurd n q⟩⟩
  rw [hR.1]
  have M0 := work_mid h hop (Or.inl rfl : b01 0)
  have M1 := work_mid h hop (Or.inr rfl : b01 1)
  have c0 : cProcessor_work_b23 st (nI op) = cProcessor_work_b44 st (nI op) 0 := by
    unfold cProcessor_work_b23 cProcessor_work_b24
    exact if_pos rfl
  have r0 : ∀ s, m_work_b40 mt w (nI op) s = m_work_b57 mt w (nI op) s 0 := fun s => by
    unfold m_work_b40 m_work_b41
    exact if_pos rfl
  have o0 : o_m_work_b40 mt w (nI op) (bif bt w 20 then 1 else 0) := ⟨fun _ => M0.1, fun q => absurd rfl q⟩
  unfold cProcessor_work m_work_b23
  unfold o_m_work_b23 at hR
  rw [ep, c0, r0]
  by_cases l8 : op < 8
  · have a1 : nI op < 8 := nI_lt (b := 8) l8 (by decide)
    have a2 : nI op ≤ 7 := nI_le (b := 7) (by omega) (by decide)
    rw [if_pos a1, if_pos a2]
    exact ⟨hR.2 ⟨fun _ => o0, fun q => absurd a2 q⟩, M0.2⟩
  · have a1 : ¬ nI op < 8 := nI_nlt (b := 8) (by omega) (by omega)
    have a2 : ¬ nI op ≤ 7 := nI_ge (a := 7) (by omega) (by omega)
    rw [if_neg a1, if_neg a2]
    by_cases l12 : 12 ≤ op
    · have b1 : (11 : Int32) < nI op := nI_lt (a := 11) (by omega) (by omega)
      have b2 : (12 : Int32) ≤ nI op := nI_le (a := 12) (by omega) (by omega)
      rw [if_pos b1, if_pos b2]
      exact ⟨hR.2 ⟨fun q => absurd q a2, fun _ => ⟨fun _ => o0, fun q => absurd b2 q⟩⟩, M0.2⟩
    · have b1 : ¬ (11 : Int32) < nI op := nI_nlt (a := 11) (by omega) (by omega)
      have b2 : ¬ (12 : Int32) ≤ nI op := nI_ge (b := 12) (by omega) (by omega)
      rw [if_neg b1, if_neg b2]
      unfold cProcessor_work_b24 m_work_b41
      unfold o_m_work_b41 at hR
      rw [if_neg z, if_neg z, is_w hw 1048576 20 (by decide) (by decide)]
      cases b20 : bt w 20
      · rw [b20] at hR
        obtain ⟨u1, u2⟩ := undef_eq h
        refine ⟨?_, ?_⟩
        rotate_left
        · show Dn N mt (if (0 : Int32) = 0 then _ else _) (if (0 : Int32) = 0 then _ else _)
          rw [if_pos rfl, if_pos rfl]
          exact u2
        exact (hR.2 ⟨fun q => absurd q a2, fun _ => ⟨fun q => absurd q b2, fun _ => ⟨fun q => absurd q z, fun _ => ⟨fun _ => ⟨u1, trivial⟩, fun q => absurd rfl q⟩⟩⟩⟩)
      · rw [b20] at hR M1
        refine ⟨?_, ?_⟩
        rotate_left
        · show Dn N mt (if (1 : Int32) = 0 then _ else _) (if (1 : Int32) = 0 then _ else _)
          rw [if_neg z, if_neg z]
          exact M1.2
        exact (hR.2 ⟨fun q => absurd q a2, fun _ => ⟨fun q => absurd q b2, fun _ => ⟨fun q => absurd q z, fun _ => ⟨fun q => absurd q z, fun _ => M1.1⟩⟩⟩⟩)
