/-! PURE 16: R15, signs, modes, operands, traps -/
def SG (st mt : CS) : Prop := gA st 1 15 &&& -67108861 = gI mt 1 &&& -67108861
def rr (s nx : Int32) : Int32 := (s &&& -67108861) ||| nx
def pcn (nx : Int32) : Prop := nx &&& 67108860 = nx
theorem and_and (x a b : Int32) (h : a &&& b = b) : (x &&& a) &&& b = x &&& b := by rw [Int32.and_assoc, h]
theorem pcn_and (x : Int32) : pcn (x &&& 67108860) := and_and x _ _ (by decide)
theorem pcn_b {nx : Int32} (h : pcn nx) (i : Nat) : (bt nx i && bt 67108860 i) = bt nx i := by rw [← b_and, h]
theorem t_sg : ∀ i, i < 32 → ∀ s n : Bool, (n && bt 67108860 i) = n → (((s && bt (-67108861) i) || n) && bt (-67108861) i) = (s && bt (-67108861) i) := by decide +kernel
theorem rr_sg {s nx : Int32} (h : pcn nx) : rr s nx &&& -67108861 = s &&& -67108861 := b_ext fun i hi => by
  unfold rr
  simp only [b_and, b_or]
  exact t_sg i hi _ _ (pcn_b h i)
theorem t_pc : ∀ i, i < 32 → ∀ s n : Bool, (n && bt 67108860 i) = n → (((s && bt (-67108861) i) || n) && bt 67108860 i) = n := by decide +kernel
theorem rr_pc {s nx : Int32} (h : pcn nx) : rr s nx &&& 67108860 = nx := b_ext fun i hi => by
  unfold rr
  simp only [b_and, b_or]
  exact t_pc i hi _ _ (pcn_b h i)
theorem t_chg : ∀ i, i < 32 → ∀ s n m v : Bool, (n && bt 67108860 i) = n → (m && bt (-67108861) i) = m → ((((s && bt (-67108861) i) || n) && (m ^^ true)) || (v && m)) = ((((s && (m ^^ true)) || (v && m)) && bt (-67108861) i) || n) := by decide +kernel
theorem rr_chg {s nx m v : Int32} (h : pcn nx) (hm : m &&& -67108861 = m) : (rr s nx &&& (m ^^^ -1)) ||| (v &&& m) = rr ((s &&& (m ^^^ -1)) ||| (v &&& m)) nx := b_ext fun i hi => by
  unfold rr
  simp only [b_and, b_or, b_xor, b_m1 i hi]
  exact t_chg i hi _ _ _ _ (pcn_b h i) (by rw [← b_and, hm])
theorem t_go : ∀ i, i < 32 → ∀ s x : Bool, ((s && bt (-67108861) i) || (x && bt 67108860 i)) = ((s && bt (-67108861) i) || (x && bt 67108860 i)) := by decide +kernel
theorem sg_mode {st mt : CS} (h : SG st mt) : cRegisters_mode st = m_mode mt := by
  show gA st 1 15 &&& 3 = gI mt 1 &&& 3
  rw [← and_and _ (-67108861) 3 (by decide), h, and_and _ _ _ (by decide)]
theorem sg_bit {st mt : CS} (h : SG st mt) {k : Nat} (hk : bt (-67108861) k = true) : bt (gA st 1 15) k = bt (gI mt 1) k := by
  have := congrArg (fun z => bt z k) h
  simp only [b_and, hk, Bool.and_true] at this
  exact this
theorem mode_N (mt : CS) : ∃ i, i < 4 ∧ m_mode mt = nI i := rng_and (gI mt 1) 2 rfl
theorem m_is_b (mt : CS) (k : Nat) (hk : k < 32) : m_is mt (nI k) = (bif bt (gI mt 1) k then 1 else 0) := by
  unfold m_is
  cases c : bt (gI mt 1) k
  · rw [if_neg (fun q => by rw [(bit1_1 _ k hk).mp q] at c; exact absurd c (by decide))]; rfl
  · rw [if_pos ((bit1_1 _ k hk).mpr c)]; rfl
theorem m_is_01 (mt : CS) (k : Nat) (hk : k < 32) : m_is mt (nI k) = 0 ∨ m_is mt (nI k) = 1 := by
  rw [m_is_b mt k hk]
  cases bt (gI mt 1) k
  · exact Or.inl rfl
  · exact Or.inr rfl
theorem has_b (st : CS) (k : Nat) (hk : k < 32) : cRegisters_has st (nI (2 ^ k)) = (bif bt (gA st 1 15) k then 1 else 0) := by
  unfold cRegisters_has
  show (if gA st 1 15 &&& nI (2 ^ k) = 0 then (0 : Int32) else 1) = _
  cases c : bt (gA st 1 15) k
  · rw [if_pos ((bitm _ k hk).mpr c)]; rfl
  · rw [if_neg (fun q => by rw [(bitm _ k hk).mp q] at c; exact absurd c (by decide))]; rfl
theorem sg_has {st mt : CS} (h : SG st mt) (k : Nat) (hk : k < 32) (hM : bt (-67108861) k = true) : cRegisters_has st (nI (2 ^ k)) = m_is mt (nI k) := by
  rw [has_b st k hk, m_is_b mt k hk, sg_bit h hM]
theorem sg_carry {st mt : CS} (h : SG st mt) : cRegisters_carry st = m_is mt 29 := by
  have e : m_is mt 29 = (bif bt (gI mt 1) 29 then 1 else 0) := m_is_b mt 29 (by decide)
  rw [e, ← sg_bit h (k := 29) (by decide)]
  show ushr (gA st 1 15) (nI 29) &&& nI (2 ^ 1 - 1) = _
  rw [← fld _ 29 1 (by decide) (by decide)]
  show (gA st 1 15 >>> (nI 29 &&& 31)) &&& 1 = _
  rw [bit1 _ 29 (by decide)]
  cases bt (gA st 1 15) 29 <;> rfl
theorem sg_signs {st mt : CS} (h : SG st mt) : cRegisters_signs st = gI mt 1 &&& -67108861 := h
theorem ahead_eq {st mt : CS} (h : gI st 31 = gI mt 2) (x : Int32) : cProcessor_pcAhead st x = m_ahead mt x := by
  unfold cProcessor_pcAhead m_ahead
  rw [h]
theorem wsigns_eq {st mt : CS} (h : SG st mt) (h2 : gI st 31 = gI mt 2) (x : Int32) : cProcessor_withSigns st x = (gI mt 1 &&& -67108861) ||| m_ahead mt x := by
  unfold cProcessor_withSigns
  rw [sg_signs h, ahead_eq h2]
theorem gB_give (mt : CS) (a b v : Int32) : gB (m_give mt a b v) = gB mt := by
  unfold m_give
  repeat' split
  all_goals rfl
theorem gL_give (mt : CS) (a b v : Int32) : gL (m_give mt a b v) = gL mt := by
  unfold m_give
  repeat' split
  all_goals rfl
theorem RK.r15 {N : Nat} {st mt : CS} (h : RK N st mt) (v : Int32) : RK N (sA st 1 (upd (gA st 1) 15 v)) mt := by
  obtain ⟨⟨r1, r2, r3, r4⟩, h2⟩ := h
  exact ⟨⟨upd_off0 (by omega) r1, upd_off (by omega) r2, upd_off (by omega) r3, upd_off (by omega) r4⟩, h2⟩
/-! frames: what an instruction's own places are -/
theorem RK.fr {N : Nat} {st mt S M : CS} (h : RK N st mt) (F : Fr [31, 32, 33, 34] [] [8] st S) (G : Fr [0, 1, 2, 3, 4] [] [4] mt M) : RK N S M := by
  have i : ∀ j, j < 31 → gI S j = gI st j := fun j hj => F.1 j (by simp only [List.mem_cons, List.not_mem_nil, or_false]; omega)
  have m : ∀ j, 4 < j → gI M j = gI mt j := fun j hj => G.1 j (by simp only [List.mem_cons, List.not_mem_nil, or_false]; omega)
  have a : ∀ j, j < 8 → gA S j = gA st j := fun j hj => F.2.2.1 j (by simp only [List.mem_cons, List.not_mem_nil, or_false]; omega)
  have b : ∀ j, j ≠ 4 → gA M j = gA mt j := fun j hj => G.2.2.1 j (by simp only [List.mem_cons, List.not_mem_nil, or_false]; omega)
  have l : ∀ j, gL S j = gL st j := fun j => F.2.1 j List.not_mem_nil
  have k : ∀ j, gL M j = gL mt j := fun j => G.2.1 j List.not_mem_nil
  have x : ∀ j, gB S j = gB st j := F.2.2.2
  have y : ∀ j, gB M j = gB mt j := G.2.2.2
  have sA : m_statusA M = m_statusA mt := by rw [sA_eq, sA_eq, b 12 (by decide), m 9 (by decide)]
  have sB : m_statusB M = m_statusB mt := by rw [m_statusB_eq, m_statusB_eq, m 23 (by decide), m 15 (by decide), m 14 (by decide)]
  have sF : m_statusF M = m_statusF mt := by rw [m_statusF_eq, m_statusF_eq, m 23 (by decide)]
  obtain ⟨h1, h2, h3, h4, h5, h6, h7, h8, h9, h10, h11, h12⟩ := h
  refine ⟨?_, ?_, ?_, ?_, ?_, ?_, ?_, ?_, ?_, ?_, ?_, ?_⟩
  · unfold RReg at h1 ⊢; rw [a 1 (by decide), b 0 (by decide), b 1 (by decide), b 2 (by decide), b 3 (by decide)]; exact h1
  · unfold RMem at h2 ⊢; rw [a 0 (by decide), a 5 (by decide), b 5 (by decide), b 6 (by decide)]; exact h2
  · unfold REnt at h3 ⊢; rw [a 2 (by decide), a 3 (by decide), b 7 (by decide), b 8 (by decide), i 1 (by decide), m 8 (by decide)]; exact h3
  · unfold RInt at h4 ⊢; rw [sA, sB, sF, i 2 (by decide), i 3 (by decide), i 4 (by decide), i 5 (by decide), i 6 (by decide), i 7 (by decide), m 10 (by decide), m 11 (by decide), m 12 (by decide)]; exact h4
  · unfold RBoo at h5 ⊢; rw [b 12 (by decide), m 9 (by decide), m 14 (by decide), m 22 (by decide), m 23 (by decide)]; exact h5
  · unfold RSer at h6 ⊢; rw [i 8 (by decide), i 9 (by decide), m 13 (by decide), m 15 (by decide)]; exact h6
  · unfold RDsk at h7 ⊢; rw [i 10 (by decide), i 11 (by decide), i 12 (by decide), i 13 (by decide), i 14 (by decide), i 15 (by decide), i 16 (by decide), m 16 (by decide), m 17 (by decide), m 18 (by decide), m 19 (by decide), m 20 (by decide), m 21 (by decide), m 22 (by decide)]; exact h7
  · unfold RTim at h8 ⊢; rw [i 18 (by decide), i 19 (by decide), i 20 (by decide), i 21 (by decide), i 22 (by decide), i 23 (by decide), b 13 (by decide), b 14 (by decide), b 15 (by decide)]; exact h8
  · unfold RScr at h9 ⊢; rw [i 24 (by decide), i 25 (by decide), i 26 (by decide), i 27 (by decide), i 28 (by decide), i 29 (by decide), a 6 (by decide), a 7 (by decide), m 5 (by decide), m 6 (by decide), m 7 (by decide), b 9 (by decide), b 10 (by decide), b 11 (by decide)]; exact h9
  · unfold RClk at h10 ⊢; rw [k 0, i 17 (by decide), i 30 (by decide)]; exact h10
  · unfold ROut at h11 ⊢; rw [k 1, l 2, a 4 (by decide), b 16 (by decide)]; exact h11
  · unfold RCnt at h12 ⊢; rw [l 0, l 1, l 3, l 4, l 5, k 2, k 3, k 4, k 5, k 6, x 0, y 0, i 0 (by decide), m 24 (by decide)]; exact h12
/-- inside an instruction -/
def RI (N : Nat) (w : Int32) (st mt : CS) : Prop := RK N st mt ∧ gA st 1 15 = rr (gI mt 1) (gI mt 3) ∧ pcn (gI mt 3) ∧ gI st 31 = gI mt 2 ∧ gI st 32 = w
theorem RI.sg {N : Nat} {w : Int32} {st mt : CS} (h : RI N w st mt) : SG st mt := by
  unfold SG
  rw [h.2.1]
  exact rr_sg h.2.2.1
theorem RI.fr {N : Nat} {w : Int32} {st mt S M : CS} (h : RI N w st mt) (F : Fr [33, 34] [] [8] st S) (G : Fr [4] [] [4] mt M) : RI N w S M := by
  obtain ⟨h1, h2, h3, h4, h5⟩ := h
  refine ⟨h1.fr (F.mono (by decide) (by decide) (by decide)) (G.mono (by decide) (by decide) (by decide)), ?_, ?_, ?_, ?_⟩
  · rw [F.2.2.1 1 (by decide), G.1 1 (by decide), G.1 3 (by decide)]; exact h2
  · rw [G.1 3 (by decide)]; exact h3
  · rw [F.1 31 (by decide), G.1 2 (by decide)]; exact h4
  · rw [F.1 32 (by decide)]; exact h5
theorem RI.goTo {N : Nat} {w : Int32} {st mt : CS} (h : RI N w st mt) (x : Int32) : RI N w (cRegisters_goTo st x) (sI mt 3 (x &&& 67108860)) := by
  obtain ⟨h1, h2, h3, h4, h5⟩ := id h
  refine ⟨h1.r15 _, ?_, pcn_and x, h4, h5⟩
  show (gA st 1 15 &&& -67108861) ||| (x &&& 67108860) = (gI mt 1 &&& -67108861) ||| (x &&& 67108860)
  rw [show gA st 1 15 &&& -67108861 = gI mt 1 &&& -67108861 from h.sg]
theorem RI.chg {N : Nat} {w : Int32} {st mt : CS} (h : RI N w st mt) (m v : Int32) (hm : m &&& -67108861 = m) {s' : Int32} (hs : s' = (gI mt 1 &&& (m ^^^ -1)) ||| (v &&& m)) : RI N w (cRegisters_change st m v) (sI mt 1 s') := by
  obtain ⟨h1, h2, h3, h4, h5⟩ := id h
  refine ⟨h1.r15 _, ?_, h3, h4, h5⟩
  show (gA st 1 15 &&& (m ^^^ -1)) ||| (v &&& m) = rr s' (gI mt 3)
  rw [h2, hs]
  exact rr_chg h3 hm
theorem RI.give {N : Nat} {w : Int32} {st mt : CS} (h : RI N w st mt) {i j : Nat} (hi : i < 4) (hj : j < 15) (v : Int32) : o_m_give mt (nI i) (nI j) v ∧ RI N w (cRegisters_become st (nI i) (nI j) v) (m_give mt (nI i) (nI j) v) ∧ gI (m_give mt (nI i) (nI j) v) = gI mt ∧ gB (m_give mt (nI i) (nI j) v) = gB mt ∧ gA (m_give mt (nI i) (nI j) v) 4 = gA mt 4 := by
  obtain ⟨h1, h2, h3, h4, h5⟩ := h
  obtain ⟨a1, a2, a3, a4, a5⟩ := give_RK h1 hi hj v
  refine ⟨a1, ⟨a2, ?_, ?_, ?_, h5⟩, a4, gB_give _ _ _ _, a5⟩
  · rw [a3, a4]; exact h2
  · rw [a4]; exact h3
  · rw [a4]; exact h4
theorem op_eq {N : Nat} {st mt : CS} (h : RK N st mt) (hs : SG st mt) (h2 : gI st 31 = gI mt 2) {j : Nat} (hj : j < 16) : cProcessor_operand st (nI j) 8 = m_operand mt (nI j) ∧ o_m_operand mt (nI j) := by
  unfold cProcessor_operand m_operand o_m_operand
  by_cases c : j = 15
  · subst c
    have e : nI 15 = 15 := rfl
    rw [if_pos e, if_pos e]
    exact ⟨ahead_eq h2 8, fun _ => trivial, fun z => absurd e z⟩
  · have e : ¬ nI j = 15 := nI_n15 (by omega)
    rw [if_neg e, if_neg e, sg_mode hs]
    obtain ⟨i, hi, ei⟩ := mode_N mt
    rw [ei]
    obtain ⟨a, b⟩ := get_eq h.1 hi (j := j) (by omega)
    exact ⟨a, fun z => absurd z e, fun _ => ⟨b, trivial⟩⟩
/-- an operand with another PC than 8 ahead -/
theorem op12_eq {N : Nat} {st mt : CS} (h : RK N st mt) (hs : SG st mt) (h2 : gI st 31 = gI mt 2) {j : Nat} (hj : j < 16) (x : Int32) : cProcessor_operand st (nI j) x = (if nI j = 15 then m_ahead mt x else m_get mt (m_mode mt) (nI j)) ∧ (¬ nI j = 15 → o_m_get mt (m_mode mt) (nI j)) := by
  unfold cProcessor_operand
  by_cases c : j = 15
  · subst c
    have e : nI 15 = 15 := rfl
    rw [if_pos e, if_pos e]
    exact ⟨ahead_eq h2 x, fun z => absurd e z⟩
  · have e : ¬ nI j = 15 := nI_n15 (by omega)
    rw [if_neg e, if_neg e, sg_mode hs]
    obtain ⟨i, hi, ei⟩ := mode_N mt
    rw [ei]
    obtain ⟨a, b⟩ := get_eq h.1 hi (j := j) (by omega)
    exact ⟨a, fun _ => b⟩
/-- what an instruction leaves: no trap, R15 still in two; or a trap, R15 whole and one count more -/
def Dn (N : Nat) (mt : CS) (c m : CS × Int32) : Prop := c.2 = m.2 ∧ (∃ t, 1 ≤ t ∧ t ≤ 40 ∧ m.2 = nI t) ∧ RK N c.1 m.1 ∧ gI m.1 0 = gI mt 0 ∧ ((gA c.1 1 15 = rr (gI m.1 1) (gI m.1 3) ∧ gB m.1 0 = gB mt 0) ∨ (gA c.1 1 15 = gI m.1 1 ∧ ∃ k, k < 7 ∧ gB m.1 0 = vp_updL (gB mt 0) k (gB mt 0 k + 1)))
/-! bits of R15 in the reference, one at a time -/
def stb (s : Int32) (k : Nat) (b : Bool) : Int32 := (s &&& (((1 : Int32) <<< (nI k &&& 31)) ^^^ -1)) ||| (bif b then (1 : Int32) <<< (nI k &&& 31) else 0)
theorem b_1k (k : Nat) (hk : k < 32) {i : Nat} (hi : i < 32) : bt ((1 : Int32) <<< (nI k &&& 31)) i = decide (i = k) := by
  rw [b_shl k hk 1 hi]
  have e : ∀ j, j < 32 → bt 1 j = decide (j = 0) := by decide +kernel
  rw [e (i - k) (by omega)]
  by_cases c : i = k
  · rw [c]; simp
  · by_cases d : k ≤ i
    · rw [decide_eq_true d, decide_eq_false (show ¬ i - k = 0 by omega), decide_eq_false c]; rfl
    · rw [decide_eq_false d, decide_eq_false c]; rfl
theorem b_stb (s : Int32) (k : Nat) (b : Bool) (hk : k < 32) {i : Nat} (hi : i < 32) : bt (stb s k b) i = if i = k then b else bt s i := by
  unfold stb
  rw [b_or, b_and, b_xor, b_1k k hk hi, b_m1 i hi]
  have e : bt (bif b then (1 : Int32) <<< (nI k &&& 31) else 0) i = (b && decide (i = k)) := by
    cases b
    · exact b_0 i
    · exact b_1k k hk hi
  rw [e]
  by_cases c : i = k
  · rw [if_pos c, decide_eq_true c]; cases bt s i <;> cases b <;> rfl
  · rw [if_neg c, decide_eq_false c]; cases bt s i <;> cases b <;> rfl
theorem set_is (mt : CS) (k : Nat) (v : Int32) : m_set mt (nI k) v = sI mt 1 (stb (gI mt 1) k (decide (¬ v = 0))) := by
  unfold m_set m_set_b22 stb
  by_cases c : v = 0
  · rw [if_pos c, decide_eq_false (show ¬ ¬ v = 0 from fun q => q c)]; rfl
  · rw [if_neg c, decide_eq_true c]; rfl
theorem sI_sI (st : CS) (k : Nat) (u v : Int32) : sI (sI st k u) k v = sI st k v := by
  have e : (fun j => if j = k then v else if j = k then u else st.1 j) = (fun j => if j = k then v else st.1 j) := by
    funext j
    by_cases c : j = k
    · rw [if_pos c, if_pos c]
    · rw [if_neg c, if_neg c, if_neg c]
  show ((fun j => if j = k then v else if j = k then u else st.1 j), st.2) = _
  rw [e]
  rfl
/-! traps -/
theorem t_tr : ∀ i, i < 32 → ∀ x : Bool, ((x && bt (-4) i) || bt 134217728 i) = (if i = 27 then true else (x && bt (-4) i)) := by decide +kernel
/-- R15 at a trap -/
def trR (s v m f : Int32) : Int32 := ((((s &&& -67108861) &&& -4) ||| m) ||| f) ||| v
def trK (mt : CS) (k m v : Nat) (b6 : Bool) : CS := sI (sB mt 0 (vp_updL (gB mt 0) k (gB mt 0 k + 1))) 1 (trR (gI mt 1) (nI v) (nI m) (bif b6 then 201326592 else 134217728))
theorem t_tr1 : ∀ i, i < 32 → ∀ s v m : Bool, (if i = 27 then true else ((((s && bt (-67108861) i) && bt (-4) i) || v) || m)) = (((((s && bt (-67108861) i) && bt (-4) i) || m) || bt 134217728 i) || v) := by decide +kernel
theorem t_tr2 : ∀ i, i < 32 → ∀ s v m : Bool, (if i = 26 then true else if i = 27 then true else ((((s && bt (-67108861) i) && bt (-4) i) || v) || m)) = (((((s && bt (-67108861) i) && bt (-4) i) || m) || bt 201326592 i) || v) := by decide +kernel
theorem tr27 (s v m : Int32) : stb ((((s &&& -67108861) &&& -4) ||| v) ||| m) 27 true = trR s v m 134217728 := b_ext fun i hi => by
  rw [b_stb _ 27 _ (by decide) hi]
  unfold trR
  simp only [b_or, b_and]
  exact t_tr1 i hi _ _ _
theorem tr26 (s v m : Int32) : stb (stb ((((s &&& -67108861) &&& -4) ||| v) ||| m) 27 true) 26 true = trR s v m 201326592 := b_ext fun i hi => by
  rw [b_stb _ 26 _ (by decide) hi, b_stb _ 27 _ (by decide) hi]
  unfold trR
  simp only [b_or, b_and]
  exact t_tr2 i hi _ _ _
theorem set1_is (T : CS) (u : Int32) (k : Nat) : m_set (sI T 1 u) (nI k) 1 = sI T 1 (stb u k true) := by
  rw [set_is, sI_sI]
  rfl
theorem trap_is (mt : CS) {k : Nat} (hk : k < 7) (m v : Nat) (x4 : Int32) : m_trap mt (nI k) (nI m) (nI v) x4 = (m_give (trK mt k m v (decide (k = 6))) (nI m) 14 ((gI mt 1 &&& -67108861) ||| m_ahead mt x4), 4) ∧ (o_m_give (trK mt k m v (decide (k = 6))) (nI m) 14 ((gI mt 1 &&& -67108861) ||| m_ahead mt x4) → o_m_trap mt (nI k) (nI m) (nI v) x4) := by
  have e6 : (nI k = 6) ↔ k = 6 := nI_eq (b := 6) (by omega) (by omega)
  have vk : vp_in (nI k) 7 := vp_in_nI hk (by decide)
  have s27 : ∀ (T : CS) (u : Int32), m_set (sI T 1 u) 27 1 = sI T 1 (stb u 27 true) := fun T u => set1_is T u 27
  have s26 : ∀ (T : CS) (u : Int32), m_set (sI T 1 u) 26 1 = sI T 1 (stb u 26 true) := fun T u => set1_is T u 26
  unfold m_trap o_m_trap m_trap_b26 o_m_trap_b26 m_trap_b51 o_m_trap_b51 m_trap_b64 o_m_trap_b64
  rw [nI_clamp (by omega), s27, s26, tr26, tr27]
  by_cases c : k = 6
  · rw [if_pos (e6.mpr c), decide_eq_true c]
    exact ⟨rfl, fun o => ⟨vk, vk, fun _ => ⟨o, trivial⟩, fun z => absurd (e6.mpr c) z⟩⟩
  · rw [if_neg (fun q => c (e6.mp q)), decide_eq_false c]
    exact ⟨rfl, fun o => ⟨vk, vk, fun z => absurd (e6.mp z) c, fun _ => ⟨o, trivial⟩⟩⟩
def trM (k : Nat) : Nat := if k = 5 then 2 else if k = 6 then 1 else 3
def trA (k : Nat) : Int32 := if k = 3 ∨ k = 4 then 8 else 4
theorem take_is (st : CS) {k : Nat} (hk : k < 7) : cProcessor_take st (nI k) = (sB (cRegisters_enter (cRegisters_become st (nI (trM k)) 14 (cProcessor_withSigns st (trA k))) (nI (trM k)) (bif decide (k = 6) then 201326592 else 134217728) (nI (4 * k + 4))) 0 (vp_updL (gB st 0) k (gB st 0 k + 1)), 4) := by
  rcases (by omega : k = 0 ∨ k = 1 ∨ k = 2 ∨ k = 3 ∨ k = 4 ∨ k = 5 ∨ k = 6) with rfl | rfl | rfl | rfl | rfl | rfl | rfl <;> rfl
theorem trap_eq {N : Nat} {st mt : CS} (h : RK N st mt) (hs : SG st mt) (h2 : gI st 31 = gI mt 2) {k : Nat} (hk : k < 7) :
    o_m_trap mt (nI k) (nI (trM k)) (nI (4 * k + 4)) (trA k) ∧ Dn N mt (cProcessor_take st (nI k)) (m_trap mt (nI k) (nI (trM k)) (nI (4 * k + 4)) (trA k)) := by
  have hm : trM k < 4 := by unfold trM; split; omega; split <;> omega
  obtain ⟨t1, t2⟩ := trap_is mt hk (trM k) (4 * k + 4) (trA k)
  have hK : RK N (sB st 0 (vp_updL (gB st 0) k (gB st 0 k + 1))) (trK mt k (trM k) (4 * k + 4) (decide (k = 6))) := by
    obtain ⟨h1, h2, h3, h4, h5, h6, h7, h8, h9, h10, h11, ⟨q1, q2, q3, q4, q5, q6, q7⟩⟩ := h
    refine ⟨h1, h2, h3, h4, h5, h6, h7, h8, h9, h10, h11, ⟨q1, q2, q3, q4, q5, ?_, q7⟩⟩
    intro j hj
    show vp_updL (gB st 0) k (gB st 0 k + 1) j = vp_updL (gB mt 0) k (gB mt 0 k + 1) j
    by_cases c : j = k
    · rw [c, pk_uLs, pk_uLs, q6 k hk]
    · rw [pk_uLn c, pk_uLn c, q6 j hj]
  obtain ⟨g1, g2, g3, g4, g5⟩ := give_RK hK hm (j := 14) (by decide) ((gI mt 1 &&& -67108861) ||| m_ahead mt (trA k))
  refine ⟨t2 g1, ?_⟩
  rw [t1, take_is st hk, wsigns_eq hs h2]
  refine ⟨rfl, ⟨4, by omega, by omega, rfl⟩, g2.r15 _, ?_, Or.inr ⟨?_, k, hk, ?_⟩⟩
  · show gI (m_give _ (nI (trM k)) (nI 14) _) 0 = gI mt 0
    rw [g4]
    rfl
  · show ((((gA (cRegisters_become st (nI (trM k)) (nI 14) _) 1 15 &&& -67108861) &&& -4) ||| nI (trM k)) ||| (bif decide (k = 6) then 201326592 else 134217728)) ||| nI (4 * k + 4) = gI (m_give _ (nI (trM k)) (nI 14) _) 1
    rw [g4]
    have e : gA (cRegisters_become st (nI (trM k)) (nI 14) ((gI mt 1 &&& -67108861) ||| m_ahead mt (trA k))) 1 15 = gA st 1 15 := g3
    rw [e, show gA st 1 15 &&& -67108861 = gI mt 1 &&& -67108861 from hs]
    rfl
  · show gB (m_give _ (nI (trM k)) (nI 14) _) 0 = _
    rw [gB_give]
    rfl
