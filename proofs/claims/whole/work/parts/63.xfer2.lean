/-! PURE 23: one word or byte moved, whole -/
theorem Dn.mono {N N' : Nat} {mt : CS} {c m : CS × Int32} (h : Dn N mt c m) (hN : N ≤ N') : Dn N' mt c m := ⟨h.1, h.2.1, h.2.2.1.mono hN, h.2.2.2⟩
theorem tr_go {N : Nat} {w : Int32} {st mt : CS} (h : RI N w st mt) (hN : N < 2 ^ 30) {jn jd : Nat} (hjn : jn < 16) (hjd : jd < 16) (ejd : cProcessor_part st 12 = nI jd) (nb y0 : Int32) :
    o_m_transfer_b190 mt (bif bt w 24 then 1 else 0) (bif bt w 21 then 1 else 0) (bif bt w 22 then 1 else 0) (bif bt w 20 then 1 else 0) (nI jn) (nI jd) nb y0 ∧ Dn (N + 1) mt (cProcessor_transferOne_b110 st (nI jn) nb y0) (m_transfer_b190 mt (bif bt w 24 then 1 else 0) (bif bt w 21 then 1 else 0) (bif bt w 22 then 1 else 0) (bif bt w 20 then 1 else 0) (nI jn) (nI jd) nb y0) := by
  have z : ¬ (1 : Int32) = 0 := by decide
  have hw : gI st 32 = w := h.2.2.2.2
  have i24 := is_w hw 16777216 24 (by decide) (by decide)
  have i21 := is_w hw 2097152 21 (by decide) (by decide)
  have i20 := is_w hw 1048576 20 (by decide) (by decide)
  by_cases c : ushr y0 26 = 0
  · obtain ⟨a, ha, rfl⟩ := addr_N c
    -- the mode of the access
    obtain ⟨md, emd⟩ : ∃ md, md = (bif !(bt w 24) && bt w 21 then (0 : Int32) else m_mode mt) := ⟨_, rfl⟩
    have hC : cProcessor_transferOne_b110 st (nI jn) nb (nI a) = cProcessor_transferOne_b155 st (nI jn) nb (nI a) md := by
      unfold cProcessor_transferOne_b110 cProcessor_transferOne_b148
      rw [if_pos c, i24, i21, sg_mode h.sg, emd]
      cases bt w 24 <;> cases bt w 21 <;> simp only [z, cond_true, cond_false, if_true, if_false, Bool.not_false, Bool.not_true, Bool.and_true, Bool.and_false, Bool.true_and, Bool.false_and]
    have hR : m_transfer_b190 mt (bif bt w 24 then 1 else 0) (bif bt w 21 then 1 else 0) (bif bt w 22 then 1 else 0) (bif bt w 20 then 1 else 0) (nI jn) (nI jd) nb (nI a) = m_transfer_b229 mt (bif bt w 24 then 1 else 0) (bif bt w 21 then 1 else 0) (bif bt w 22 then 1 else 0) (bif bt w 20 then 1 else 0) (nI jn) (nI jd) nb (nI a) md ∧ (o_m_transfer_b229 mt (bif bt w 24 then 1 else 0) (bif bt w 21 then 1 else 0) (bif bt w 22 then 1 else 0) (bif bt w 20 then 1 else 0) (nI jn) (nI jd) nb (nI a) md → o_m_transfer_b190 mt (bif bt w 24 then 1 else 0) (bif bt w 21 then 1 else 0) (bif bt w 22 then 1 else 0) (bif bt w 20 then 1 else 0) (nI jn) (nI jd) nb (nI a)) := by
      refine ⟨?_, ?_⟩
      · unfold m_transfer_b190 m_transfer_b225
        rw [if_pos c, emd]
        cases bt w 24 <;> cases bt w 21 <;> simp only [z, cond_true, cond_false, if_true, if_false, Bool.not_false, Bool.not_true, Bool.and_true, Bool.and_false, Bool.true_and, Bool.false_and]
      · unfold o_m_transfer_b190 o_m_transfer_b225
        rw [emd]
        cases bt w 24 <;> cases bt w 21
        · exact fun o => ⟨fun _ => ⟨fun _ => ⟨fun _ => o, fun q => absurd rfl q⟩, fun q => absurd rfl q⟩, fun q => absurd c q⟩
        · exact fun o => ⟨fun _ => ⟨fun _ => ⟨fun q => absurd q z, fun _ => o⟩, fun q => absurd rfl q⟩, fun q => absurd c q⟩
        · exact fun o => ⟨fun _ => ⟨fun q => absurd q z, fun _ => o⟩, fun q => absurd c q⟩
        · exact fun o => ⟨fun _ => ⟨fun q => absurd q z, fun _ => o⟩, fun q => absurd c q⟩
    obtain ⟨kd, ekd⟩ : ∃ kd, kd = (bif bt w 20 then (0 : Int32) else 1) := ⟨_, rfl⟩
    have hC2 : cProcessor_transferOne_b155 st (nI jn) nb (nI a) md = cProcessor_transferOne_b179 st (nI jn) nb (nI a) md (nI a) kd := by
      unfold cProcessor_transferOne_b155
      rw [i20, ekd]
      cases bt w 20 <;> simp only [z, cond_true, cond_false, if_true, if_false, Bool.not_false, Bool.not_true, Bool.and_true, Bool.and_false, Bool.true_and, Bool.false_and]
    have hR2 : m_transfer_b229 mt (bif bt w 24 then 1 else 0) (bif bt w 21 then 1 else 0) (bif bt w 22 then 1 else 0) (bif bt w 20 then 1 else 0) (nI jn) (nI jd) nb (nI a) md = m_transfer_b241 mt (bif bt w 24 then 1 else 0) (bif bt w 21 then 1 else 0) (bif bt w 22 then 1 else 0) (bif bt w 20 then 1 else 0) (nI jn) (nI jd) nb (nI a) md (nI a) kd ∧ (o_m_transfer_b241 mt (bif bt w 24 then 1 else 0) (bif bt w 21 then 1 else 0) (bif bt w 22 then 1 else 0) (bif bt w 20 then 1 else 0) (nI jn) (nI jd) nb (nI a) md (nI a) kd → o_m_transfer_b229 mt (bif bt w 24 then 1 else 0) (bif bt w 21 then 1 else 0) (bif bt w 22 then 1 else 0) (bif bt w 20 then 1 else 0) (nI jn) (nI jd) nb (nI a) md) := by
      refine ⟨?_, ?_⟩
      · unfold m_transfer_b229
        rw [ekd]
        cases bt w 20 <;> simp only [z, cond_true, cond_false, if_true, if_false, Bool.not_false, Bool.not_true, Bool.and_true, Bool.and_false, Bool.true_and, Bool.false_and]
      · unfold o_m_transfer_b229
        rw [ekd]
        cases bt w 20
        · exact fun o => ⟨fun _ => o, fun q => absurd rfl q⟩
        · exact fun o => ⟨fun q => absurd q z, fun _ => o⟩
    rw [hC, hC2, hR.1, hR2.1]
    have hO := fun o => hR.2 (hR2.2 o)
    clear hR hR2 hC hC2
    obtain ⟨f1, f2, f3⟩ := find_spec h.1.2.2.1 md kd ha
    unfold m_transfer_b241 cProcessor_transferOne_b179
    unfold o_m_transfer_b241 at hO
    have loc : ∀ F W, ¬ m_may mt md (nI a) kd = 0 → cBus_find st md (nI a) kd = F → m_wordAt mt (nI a) = W → ¬ F = -1 → Loc a F W → (o_m_transfer_b190 mt (bif bt w 24 then 1 else 0) (bif bt w 21 then 1 else 0) (bif bt w 22 then 1 else 0) (bif bt w 20 then 1 else 0) (nI jn) (nI jd) nb (nI a)) ∧ Dn (N + 1) mt (if cBus_find st md (nI a) kd = -1 then ((cProcessor_take st 3).1, (cProcessor_take st 3).2) else (if cProcessor_is st 16777216 = 0 then cProcessor_transferOne_b214 st (nI jn) nb (nI a) (cBus_find st md (nI a) kd) else (if cProcessor_is st 2097152 = 0 then cProcessor_transferOne_b224 st (nI jn) nb (nI a) (cBus_find st md (nI a) kd) else cProcessor_transferOne_b214 st (nI jn) nb (nI a) (cBus_find st md (nI a) kd))))
        (if m_may mt md (nI a) kd = 0 then ((m_trap mt 3 3 16 8).1, (m_trap mt 3 3 16 8).2) else (if (15 : Int32) ≤ nI jn then m_transfer_b295 mt (bif bt w 22 then 1 else 0) (bif bt w 20 then 1 else 0) (nI jn) (nI jd) nb (nI a) (m_wordAt mt (nI a)) (8 * (nI a &&& 3)) else (if (bif bt w 24 then (1 : Int32) else 0) = 0 then m_transfer_b291 mt (bif bt w 22 then 1 else 0) (bif bt w 20 then 1 else 0) (nI jn) (nI jd) nb (nI a) (m_wordAt mt (nI a)) (8 * (nI a &&& 3)) else (if (bif bt w 21 then (1 : Int32) else 0) = 0 then m_transfer_b295 mt (bif bt w 22 then 1 else 0) (bif bt w 20 then 1 else 0) (nI jn) (nI jd) nb (nI a) (m_wordAt mt (nI a)) (8 * (nI a &&& 3)) else m_transfer_b291 mt (bif bt w 22 then 1 else 0) (bif bt w 20 then 1 else 0) (nI jn) (nI jd) nb (nI a) (m_wordAt mt (nI a)) (8 * (nI a &&& 3)))))) := by
      intro F W m1 eF eW nF hl
      rw [eF, eW, if_neg nF, if_neg m1]
      rw [eW] at hO
      have T : ∀ u : Bool, (u = true → jn < 15) → o_m_transfer_b296 mt (bif bt w 22 then 1 else 0) (bif bt w 20 then 1 else 0) (nI jn) (nI jd) nb (nI a) W ((8 : Int32) * (nI a &&& 3)) (bif u then 1 else 0) ∧ Dn (N + 1) mt (cProcessor_transferOne_b225 st (nI jn) nb (nI a) F (bif u then 1 else 0)) (m_transfer_b296 mt (bif bt w 22 then 1 else 0) (bif bt w 20 then 1 else 0) (nI jn) (nI jd) nb (nI a) W ((8 : Int32) * (nI a &&& 3)) (bif u then 1 else 0)) := by
        intro u hu
        cases b20 : bt w 20
        · have q := tr_store h hN b20 ha hl hjd ejd hu nb
          rw [b20] at q
          exact q
        · have q := tr_load h b20 ha hl hjd ejd hu nb
          rw [b20] at q
          exact ⟨q.1, q.2.mono (by omega)⟩
      have T0 := T false (fun q => absurd q (by decide))
      by_cases c15 : jn = 15
      · subst c15
        have l15 : (15 : Int32) ≤ nI 15 := by decide
        have k15 : nI 15 = 15 := rfl
        have e0 : cProcessor_transferOne_b214 st (nI 15) nb (nI a) F = cProcessor_transferOne_b225 st (nI 15) nb (nI a) F 0 := by
          unfold cProcessor_transferOne_b214 cProcessor_transferOne_b224
          exact if_pos k15
        refine ⟨hO ⟨f1, fun q => absurd q m1, fun _ => ⟨f2, fun _ => T0.1, fun q => absurd l15 q⟩⟩, ?_⟩
        rw [if_pos l15, e0]
        have e1 : (if cProcessor_is st 16777216 = 0 then cProcessor_transferOne_b225 st (nI 15) nb (nI a) F 0 else (if cProcessor_is st 2097152 = 0 then cProcessor_transferOne_b224 st (nI 15) nb (nI a) F else cProcessor_transferOne_b225 st (nI 15) nb (nI a) F 0)) = cProcessor_transferOne_b225 st (nI 15) nb (nI a) F 0 := by
          unfold cProcessor_transferOne_b224
          repeat' split
          all_goals rfl
        rw [e1]
        exact T0.2
      · have l15 : ¬ (15 : Int32) ≤ nI jn := nI_ge (b := 15) (by omega) (by decide)
        have k15 : ¬ nI jn = 15 := nI_n15 (by omega)
        have T1 := T true (fun _ => by omega)
        have e0 : cProcessor_transferOne_b214 st (nI jn) nb (nI a) F = cProcessor_transferOne_b225 st (nI jn) nb (nI a) F 1 := by
          unfold cProcessor_transferOne_b214
          rw [if_neg k15]
        rw [if_neg l15, e0, i24, i21]
        cases b24 : bt w 24
        · rw [b24] at hO
          refine ⟨hO ⟨f1, fun q => absurd q m1, fun _ => ⟨f2, fun q => absurd q l15, fun _ => ⟨fun _ => T1.1, fun q => absurd rfl q⟩⟩⟩, ?_⟩
          rw [if_pos (show (bif false then (1 : Int32) else 0) = 0 from rfl), if_pos (show (bif false then (1 : Int32) else 0) = 0 from rfl)]
          unfold m_transfer_b291
          exact T1.2
        · cases b21 : bt w 21
          · rw [b24, b21] at hO
            refine ⟨hO ⟨f1, fun q => absurd q m1, fun _ => ⟨f2, fun q => absurd q l15, fun _ => ⟨fun q => absurd q z, fun _ => ⟨fun _ => T0.1, fun q => absurd rfl q⟩⟩⟩⟩, ?_⟩
            rw [if_neg (show ¬ (bif true then (1 : Int32) else 0) = 0 from z), if_pos (show (bif false then (1 : Int32) else 0) = 0 from rfl), if_neg (show ¬ (bif true then (1 : Int32) else 0) = 0 from z), if_pos (show (bif false then (1 : Int32) else 0) = 0 from rfl)]
            unfold m_transfer_b295 cProcessor_transferOne_b224
            exact T0.2
          · rw [b24, b21] at hO
            refine ⟨hO ⟨f1, fun q => absurd q m1, fun _ => ⟨f2, fun q => absurd q l15, fun _ => ⟨fun q => absurd q z, fun _ => ⟨fun q => absurd q z, fun _ => T1.1⟩⟩⟩⟩, ?_⟩
            rw [if_neg (show ¬ (bif true then (1 : Int32) else 0) = 0 from z), if_neg (show ¬ (bif true then (1 : Int32) else 0) = 0 from z), if_neg (show ¬ (bif true then (1 : Int32) else 0) = 0 from z), if_neg (show ¬ (bif true then (1 : Int32) else 0) = 0 from z)]
            unfold m_transfer_b291
            exact T1.2
    rcases f3 with ⟨g1, g2⟩ | ⟨g1, k, hk, hka, g2, g3⟩ | ⟨g1, g2, g3, g4⟩
    · rw [if_pos g1, if_pos g2]
      obtain ⟨t1, t2⟩ := trap_eq h.1 h.sg h.2.2.2.1 (k := 3) (by decide)
      exact ⟨hO ⟨f1, fun _ => ⟨t1, trivial⟩, fun q => absurd g2 q⟩, t2.mono (by omega)⟩
    · exact loc (nI k) (nI k) g1 g2 g3 (nI_m1 (by omega)) (Or.inl ⟨k, hk, hka, rfl, rfl⟩)
    · exact loc (-2) (-1) g1 g3 g4 (by decide) (Or.inr ⟨g2, rfl, rfl⟩)
  · unfold m_transfer_b190 o_m_transfer_b190 cProcessor_transferOne_b110
    rw [if_neg c, if_neg c]
    obtain ⟨t1, t2⟩ := trap_eq h.1 h.sg h.2.2.2.1 (k := 4) (by decide)
    exact ⟨⟨fun q => absurd q c, fun _ => ⟨t1, trivial⟩⟩, t2.mono (by omega)⟩
theorem tr_adr {N : Nat} {w : Int32} {st mt : CS} (h : RI N w st mt) (hN : N < 2 ^ 30) {jn jd : Nat} (hjn : jn < 16) (hjd : jd < 16) (ejd : cProcessor_part st 12 = nI jd) (x9 y : Int32) :
    o_m_transfer_b152 mt w (bif bt w 24 then 1 else 0) (bif bt w 21 then 1 else 0) (bif bt w 22 then 1 else 0) (bif bt w 20 then 1 else 0) (nI jn) (nI jd) x9 y ∧ Dn (N + 1) mt (cProcessor_transferOne_b74 st (nI jn) x9 y) (m_transfer_b152 mt w (bif bt w 24 then 1 else 0) (bif bt w 21 then 1 else 0) (bif bt w 22 then 1 else 0) (bif bt w 20 then 1 else 0) (nI jn) (nI jd) x9 y) := by
  have z : ¬ (1 : Int32) = 0 := by decide
  have hw : gI st 32 = w := h.2.2.2.2
  have T := tr_go h hN hjn hjd ejd
  have P : ∀ nb, o_m_transfer_b177 mt (bif bt w 24 then 1 else 0) (bif bt w 21 then 1 else 0) (bif bt w 22 then 1 else 0) (bif bt w 20 then 1 else 0) (nI jn) (nI jd) x9 nb ∧ Dn (N + 1) mt (cProcessor_transferOne_b93 st (nI jn) x9 nb) (m_transfer_b177 mt (bif bt w 24 then 1 else 0) (bif bt w 21 then 1 else 0) (bif bt w 22 then 1 else 0) (bif bt w 20 then 1 else 0) (nI jn) (nI jd) x9 nb) := by
    intro nb
    unfold o_m_transfer_b177 m_transfer_b177 cProcessor_transferOne_b93
    rw [is_w hw 16777216 24 (by decide) (by decide)]
    have T1 := T nb x9
    have T2 := T nb nb
    cases b24 : bt w 24
    · rw [b24] at T1
      exact ⟨⟨fun _ => T1.1, fun q => absurd rfl q⟩, T1.2⟩
    · rw [b24] at T2
      exact ⟨⟨fun q => absurd q z, fun _ => T2.1⟩, T2.2⟩
  unfold o_m_transfer_b152 m_transfer_b152 cProcessor_transferOne_b74
  rw [is_w hw 8388608 23 (by decide) (by decide)]
  cases b23 : bt w 23
  · have n : ¬ (w >>> ((23 : Int32) &&& 31)) &&& 1 = 1 := ref_0 (k := 23) (by decide) b23
    rw [if_neg n]
    exact ⟨⟨fun q => absurd q n, fun _ => (P _).1⟩, (P _).2⟩
  · have n : (w >>> ((23 : Int32) &&& 31)) &&& 1 = 1 := ref_1 (k := 23) (by decide) b23
    rw [if_pos n]
    exact ⟨⟨fun _ => (P _).1, fun q => absurd n q⟩, (P _).2⟩
theorem b34_is (mt : CS) (w x2 : Int32) : m_transfer_b34 mt w x2 = m_transfer_b99 mt w x2 (bif bt w 24 then 1 else 0) (bif bt w 21 then 1 else 0) (bif bt w 22 then 1 else 0) (bif bt w 20 then 1 else 0) ∧ (o_m_transfer_b99 mt w x2 (bif bt w 24 then 1 else 0) (bif bt w 21 then 1 else 0) (bif bt w 22 then 1 else 0) (bif bt w 20 then 1 else 0) → o_m_transfer_b34 mt w x2) := by
  have h20 : ∀ a b c, m_transfer_b82 mt w x2 a b c = m_transfer_b99 mt w x2 a b c (bif bt w 20 then 1 else 0) ∧ (o_m_transfer_b99 mt w x2 a b c (bif bt w 20 then 1 else 0) → o_m_transfer_b82 mt w x2 a b c) := by
    intro a b c
    unfold m_transfer_b82 o_m_transfer_b82
    cases q : bt w 20
    · have n : ¬ (w >>> ((20 : Int32) &&& 31)) &&& 1 = 1 := ref_0 (k := 20) (by decide) q
      exact ⟨if_neg n, fun o => ⟨fun y => absurd y n, fun _ => o⟩⟩
    · have n : (w >>> ((20 : Int32) &&& 31)) &&& 1 = 1 := ref_1 (k := 20) (by decide) q
      exact ⟨if_pos n, fun o => ⟨fun _ => o, fun y => absurd n y⟩⟩
  have h22 : ∀ a b, m_transfer_b65 mt w x2 a b = m_transfer_b82 mt w x2 a b (bif bt w 22 then 1 else 0) ∧ (o_m_transfer_b82 mt w x2 a b (bif bt w 22 then 1 else 0) → o_m_transfer_b65 mt w x2 a b) := by
    intro a b
    unfold m_transfer_b65 o_m_transfer_b65
    cases q : bt w 22
    · have n : ¬ (w >>> ((22 : Int32) &&& 31)) &&& 1 = 1 := ref_0 (k := 22) (by decide) q
      exact ⟨if_neg n, fun o => ⟨fun y => absurd y n, fun _ => o⟩⟩
    · have n : (w >>> ((22 : Int32) &&& 31)) &&& 1 = 1 := ref_1 (k := 22) (by decide) q
      exact ⟨if_pos n, fun o => ⟨fun _ => o, fun y => absurd n y⟩⟩
  have h21 : ∀ a, m_transfer_b49 mt w x2 a = m_transfer_b65 mt w x2 a (bif bt w 21 then 1 else 0) ∧ (o_m_transfer_b65 mt w x2 a (bif bt w 21 then 1 else 0) → o_m_transfer_b49 mt w x2 a) := by
    intro a
    unfold m_transfer_b49 o_m_transfer_b49
    cases q : bt w 21
    · have n : ¬ (w >>> ((21 : Int32) &&& 31)) &&& 1 = 1 := ref_0 (k := 21) (by decide) q
      exact ⟨if_neg n, fun o => ⟨fun y => absurd y n, fun _ => o⟩⟩
    · have n : (w >>> ((21 : Int32) &&& 31)) &&& 1 = 1 := ref_1 (k := 21) (by decide) q
      exact ⟨if_pos n, fun o => ⟨fun _ => o, fun y => absurd n y⟩⟩
  have h24 : m_transfer_b34 mt w x2 = m_transfer_b49 mt w x2 (bif bt w 24 then 1 else 0) ∧ (o_m_transfer_b49 mt w x2 (bif bt w 24 then 1 else 0) → o_m_transfer_b34 mt w x2) := by
    unfold m_transfer_b34 o_m_transfer_b34
    cases q : bt w 24
    · have n : ¬ (w >>> ((24 : Int32) &&& 31)) &&& 1 = 1 := ref_0 (k := 24) (by decide) q
      exact ⟨if_neg n, fun o => ⟨fun y => absurd y n, fun _ => o⟩⟩
    · have n : (w >>> ((24 : Int32) &&& 31)) &&& 1 = 1 := ref_1 (k := 24) (by decide) q
      exact ⟨if_pos n, fun o => ⟨fun _ => o, fun y => absurd n y⟩⟩
  refine ⟨?_, fun o => h24.2 ((h21 _).2 ((h22 _ _).2 ((h20 _ _ _).2 o)))⟩
  rw [h24.1, (h21 _).1, (h22 _ _).1, (h20 _ _ _).1]
theorem transfer_eq {N : Nat} {w : Int32} {st mt : CS} (h : RI N w st mt) (hN : N < 2 ^ 30) : o_m_transfer mt w ∧ Dn (N + 1) mt (cProcessor_transferOne st) (m_transfer mt w) := by
  have z : ¬ (1 : Int32) = 0 := by decide
  have hw : gI st 32 = w := h.2.2.2.2
  obtain ⟨jn, hjn, en⟩ := rng_and (ushr w 16) (m := 15) 4 rfl
  have en' : (w >>> ((16 : Int32) &&& 31)) &&& 15 = nI jn := by rw [f_16]; exact en
  obtain ⟨jd, hjd, ed⟩ := rng_and (ushr w 12) (m := 15) 4 rfl
  have ed' : (w >>> ((12 : Int32) &&& 31)) &&& 15 = nI jd := by rw [f_12]; exact ed
  obtain ⟨jm, hjm, em⟩ := rng_and w (m := 15) 4 rfl
  have pn : cProcessor_part st 16 = nI jn := by unfold cProcessor_part; rw [hw]; exact en
  have pd : cProcessor_part st 12 = nI jd := by unfold cProcessor_part; rw [hw]; exact ed
  have pm : cProcessor_part st 0 = nI jm := by unfold cProcessor_part; rw [hw, ush_0]; exact em
  obtain ⟨n1, n2⟩ := op_eq h.1 h.sg h.2.2.2.1 hjn
  obtain ⟨m1, m2⟩ := op_eq h.1 h.sg h.2.2.2.1 hjm
  have B := fun x2 => b34_is mt w x2
  have core : o_m_transfer_b34 mt w (bif bt w 25 then 1 else 0) ∧ Dn (N + 1) mt (cProcessor_transferOne_b24 st) (m_transfer_b34 mt w (bif bt w 25 then 1 else 0)) := by
    obtain ⟨B1, B2⟩ := B (bif bt w 25 then 1 else 0)
    rw [B1]
    unfold m_transfer_b99 cProcessor_transferOne_b24 m_transfer_b144 cProcessor_transferOne_b63
    unfold o_m_transfer_b99 o_m_transfer_b144 at B2
    rw [en', ed', em] at B2 ⊢
    rw [is_w hw 33554432 25 (by decide) (by decide), pn, pm, n1, m1, hw]
    cases b25 : bt w 25
    · rw [b25] at B2
      have A := tr_adr h hN hjn hjd pd (m_operand mt (nI jn)) (w &&& 4095)
      exact ⟨B2 ⟨n2, fun _ => A.1, fun q => absurd rfl q⟩, A.2⟩
    · rw [b25] at B2
      obtain ⟨c, y, -, e1, e2, e3⟩ := bn_eq h.sg hw (m_operand mt (nI jm))
      rw [e2] at B2 ⊢
      rw [e1]
      have h' : RI N w (sI st 33 c) (sI mt 4 c) := h.fr (Fr.sI _ _ _ _ _ _ (by decide)) (Fr.sI _ _ _ _ _ _ (by decide))
      have A := tr_adr h' hN hjn hjd (by exact pd) (m_operand mt (nI jn)) y
      exact ⟨B2 ⟨n2, fun q => absurd q z, fun _ => ⟨m2, e3, A.1⟩⟩, A.2⟩
  unfold m_transfer o_m_transfer m_transfer_b15 o_m_transfer_b15 cProcessor_transferOne
  rw [is_w hw 33554432 25 (by decide) (by decide), is_w hw 16 4 (by decide) (by decide)]
  cases b25 : bt w 25
  · rw [b25] at core
    have n25 : ¬ (w >>> ((25 : Int32) &&& 31)) &&& 1 = 1 := ref_0 (k := 25) (by decide) b25
    rw [if_neg n25]
    exact ⟨⟨fun q => absurd q n25, fun _ => ⟨fun _ => core.1, fun q => absurd rfl q⟩⟩, core.2⟩
  · rw [b25] at core
    have n25 : (w >>> ((25 : Int32) &&& 31)) &&& 1 = 1 := ref_1 (k := 25) (by decide) b25
    rw [if_pos n25]
    cases b4 : bt w 4
    · have n4 : ¬ (w >>> ((4 : Int32) &&& 31)) &&& 1 = 1 := ref_0 (k := 4) (by decide) b4
      rw [if_neg n4]
      exact ⟨⟨fun _ => ⟨fun q => absurd q z, fun _ => ⟨fun q => absurd q n4, fun _ => core.1⟩⟩, fun q => absurd n25 q⟩, core.2⟩
    · have n4 : (w >>> ((4 : Int32) &&& 31)) &&& 1 = 1 := ref_1 (k := 4) (by decide) b4
      rw [if_pos n4]
      obtain ⟨u1, u2⟩ := undef_eq h
      exact ⟨⟨fun _ => ⟨fun q => absurd q z, fun _ => ⟨fun _ => ⟨u1, trivial⟩, fun q => absurd n4 q⟩⟩, fun q => absurd n25 q⟩, u2.mono (by omega)⟩
