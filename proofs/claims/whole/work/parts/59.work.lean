/-! PURE 19: instructions that work -/
theorem is_b (st : CS) (k : Nat) (hk : k < 32) : cProcessor_is st (nI (2 ^ k)) = (bif bt (gI st 32) k then 1 else 0) := by
  unfold cProcessor_is
  cases c : bt (gI st 32) k
  · rw [if_pos ((bitm _ k hk).mpr c)]; rfl
  · rw [if_neg (fun q => by rw [(bitm _ k hk).mp q] at c; exact absurd c (by decide))]; rfl
theorem is_w {st : CS} {w : Int32} (hw : gI st 32 = w) (m : Int32) (k : Nat) (hk : k < 32) (hm : m = nI (2 ^ k)) : cProcessor_is st m = (bif bt w k then 1 else 0) := by
  rw [hm, is_b st k hk, hw]
theorem ref_1 {w : Int32} {k : Nat} (hk : k < 32) (h : bt w k = true) : (w >>> (nI k &&& 31)) &&& 1 = 1 := (bit1_1 w k hk).mpr h
theorem ref_0 {w : Int32} {k : Nat} (hk : k < 32) (h : bt w k = false) : ¬ (w >>> (nI k &&& 31)) &&& 1 = 1 := fun q => by rw [(bit1_1 w k hk).mp q] at h; exact absurd h (by decide)
theorem sI_comm (st : CS) {k l : Nat} (h : k ≠ l) (u v : Int32) : sI (sI st k u) l v = sI (sI st l v) k u := by
  have e : (fun j => if j = l then v else if j = k then u else st.1 j) = (fun j => if j = k then u else if j = l then v else st.1 j) := by
    funext j
    by_cases c : j = l
    · have d : ¬ j = k := by omega
      rw [if_pos c, if_neg d, if_pos c]
    · rw [if_neg c, if_neg c]
  show ((fun j => if j = l then v else if j = k then u else st.1 j), st.2) = _
  rw [e]
  rfl
theorem give_sI (M : CS) {i j : Nat} (hj : j < 15) (v y : Int32) (k : Nat) : m_give (sI M k v) (nI i) (nI j) y = sI (m_give M (nI i) (nI j) y) k v := by
  unfold m_give
  rw [if_neg (nI_n15 hj), if_neg (nI_n15 hj)]
  by_cases c : m_isOwn (nI i) (nI j) = 0
  · rw [if_pos c, if_pos c]; rfl
  · rw [if_neg c, if_neg c]
    by_cases d : nI i = 1
    · rw [if_pos d, if_pos d]; rfl
    · rw [if_neg d, if_neg d]
      by_cases e : nI i = 2
      · rw [if_pos e, if_pos e]; rfl
      · rw [if_neg e, if_neg e]; rfl
theorem RI.setSigns {N : Nat} {w : Int32} {st mt : CS} (h : RI N w st mt) (y : Int32) : RI N w (cRegisters_setSigns st y) (m_setSigns mt y) ∧ ∃ s', m_setSigns mt y = sI mt 1 s' ∧ ∀ z, m_setSigns (sI mt 3 z) y = sI (sI mt 3 z) 1 s' := by
  unfold cRegisters_setSigns cRegisters_setSigns_b14 m_setSigns m_setSigns_b14
  rw [sg_mode h.sg]
  by_cases c : m_mode mt = 0
  · have c' : ∀ z, m_mode (sI mt 3 z) = 0 := fun _ => c
    rw [if_pos c, if_pos c]
    exact ⟨h.chg _ _ (by decide) rfl, _, rfl, fun z => by rw [if_pos (c' z)]; rfl⟩
  · have c' : ∀ z, ¬ m_mode (sI mt 3 z) = 0 := fun _ => c
    rw [if_neg c, if_neg c]
    exact ⟨h.chg _ _ (by decide) rfl, _, rfl, fun z => by rw [if_neg (c' z)]; rfl⟩
theorem t_s4 : ∀ i, i < 32 → ∀ s y y31 z c v : Bool, (i != 31 || y == y31) = true →
    (if i = 31 then y31 else if i = 30 then z else if i = 29 then c else if i = 28 then v else s) = (((((s && (bt (-1073741824) i ^^ true)) || (((y && bt (-2147483648) i) || (z && bt 1073741824 i)) && bt (-1073741824) i)) && (bt 805306368 i ^^ true)) || (((c && bt 536870912 i) || (v && bt 268435456 i)) && bt 805306368 i))) := by decide +kernel
theorem RI.sign4 {N : Nat} {w : Int32} {st mt : CS} (h : RI N w st mt) (y : Int32) : RI N w (cRegisters_setCarryAndOverflow (cRegisters_setResultSigns st y) (gI st 33) (gI st 34)) (sI mt 1 (fl4 (gI mt 1) (bt y 31) (decide (y = 0)) (decide (¬ gI st 33 = 0)) (decide (¬ gI st 34 = 0)))) := by
  have e1 : cRegisters_setResultSigns st y = cRegisters_change st (-1073741824) ((y &&& -2147483648) ||| (bif decide (y = 0) then 1073741824 else 0)) := by
    unfold cRegisters_setResultSigns cRegisters_setResultSigns_b17
    by_cases c : y = 0
    · rw [if_pos c, decide_eq_true c]; rfl
    · rw [if_neg c, decide_eq_false c]; rfl
  have e2 : ∀ S a b, cRegisters_setCarryAndOverflow S a b = cRegisters_change S 805306368 ((bif decide (¬ a = 0) then 536870912 else 0) ||| (bif decide (¬ b = 0) then 268435456 else 0)) := by
    intro S a b
    unfold cRegisters_setCarryAndOverflow cRegisters_setCarryAndOverflow_b13 cRegisters_setCarryAndOverflow_b23
    by_cases c : a = 0
    · rw [if_pos c, decide_eq_false (fun q => q c)]
      by_cases d : b = 0
      · rw [if_pos d, decide_eq_false (fun q => q d)]; rfl
      · rw [if_neg d, decide_eq_true d]; rfl
    · rw [if_neg c, decide_eq_true c]
      by_cases d : b = 0
      · rw [if_pos d, decide_eq_false (fun q => q d)]; rfl
      · rw [if_neg d, decide_eq_true d]; rfl
  rw [e1, e2]
  have a1 := h.chg (-1073741824) ((y &&& -2147483648) ||| (bif decide (y = 0) then 1073741824 else 0)) (by decide) rfl
  have a2 := a1.chg 805306368 ((bif decide (¬ gI st 33 = 0) then 536870912 else 0) ||| (bif decide (¬ gI st 34 = 0) then 268435456 else 0)) (by decide) rfl
  rw [sI_sI] at a2
  have e3 : fl4 (gI mt 1) (bt y 31) (decide (y = 0)) (decide (¬ gI st 33 = 0)) (decide (¬ gI st 34 = 0)) = (gI (sI mt 1 ((gI mt 1 &&& (-1073741824 ^^^ -1)) ||| (((y &&& -2147483648) ||| (bif decide (y = 0) then 1073741824 else 0)) &&& -1073741824))) 1 &&& (805306368 ^^^ -1)) ||| (((bif decide (¬ gI st 33 = 0) then 536870912 else 0) ||| (bif decide (¬ gI st 34 = 0) then 268435456 else 0)) &&& 805306368) := by
    refine b_ext fun i hi => ?_
    have f : ∀ (b : Bool) (x : Int32), bt (bif b then x else 0) i = (b && bt x i) := fun b x => by
      cases b
      · exact b_0 i
      · rfl
    show _ = bt ((((gI mt 1 &&& (-1073741824 ^^^ -1)) ||| (((y &&& -2147483648) ||| (bif decide (y = 0) then 1073741824 else 0)) &&& -1073741824)) &&& (805306368 ^^^ -1)) ||| (((bif decide (¬ gI st 33 = 0) then 536870912 else 0) ||| (bif decide (¬ gI st 34 = 0) then 268435456 else 0)) &&& 805306368)) i
    rw [b_fl4 _ _ _ _ _ hi]
    simp only [b_and, b_or, b_xor, b_m1 i hi, f]
    refine t_s4 i hi _ _ _ _ _ _ ?_
    by_cases c : i = 31
    · subst c; simp
    · simp [c]
  rw [e3]
  exact a2
/-- the end of an instruction without a trap -/
theorem Dn.of {N : Nat} {w : Int32} {mt S M : CS} (h : RI N w S M) (h0 : gI M 0 = gI mt 0) (hB : gB M 0 = gB mt 0) {t : Nat} (h1 : 1 ≤ t) (h2 : t ≤ 40) : Dn N mt (S, nI t) (M, nI t) := ⟨rfl, ⟨t, h1, h2, rfl⟩, h.1, h0, Or.inl ⟨h.2.1, hB⟩⟩
theorem work_tail {N : Nat} {w : Int32} {S M : CS} (h : RI N w S M) {x2 x3 : Int32} (h2 : b01 x2) (h3 : b01 x3) (md : Int32) {d : Nat} : ∃ t, 1 ≤ t ∧ t ≤ 40 ∧ cProcessor_work_b194 S x2 x3 md (nI d) = (S, nI t) ∧ m_work_b417 M x2 x3 (nI d) md = (M, nI t) := by
  unfold cProcessor_work_b194 cProcessor_work_b209 cProcessor_work_b210 cProcessor_work_b229 cProcessor_work_b234 m_work_b417 m_work_b427 m_work_b439 m_work_b448
  rw [sg_mode h.sg]
  have z : ¬ (1 : Int32) = 0 := by decide
  by_cases cd : nI d = 15
  · rw [if_pos cd, if_pos cd, if_pos cd]
    rcases h2 with rfl | rfl
    · rw [if_pos rfl, if_neg z, if_pos rfl, if_pos rfl]
      rcases h3 with rfl | rfl
      · exact ⟨4, by omega, by omega, rfl, rfl⟩
      · exact ⟨5, by omega, by omega, rfl, rfl⟩
    · rw [if_neg z, if_pos rfl, if_neg z, if_neg z]
      by_cases cm : m_mode M = md
      · rw [if_pos cm, if_pos cm.symm, if_pos cm.symm]
        rcases h3 with rfl | rfl
        · exact ⟨1, by omega, by omega, rfl, rfl⟩
        · exact ⟨2, by omega, by omega, rfl, rfl⟩
      · rw [if_neg cm, if_neg (show ¬ md = m_mode M from fun q => cm q.symm), if_neg (show ¬ md = m_mode M from fun q => cm q.symm)]
        rcases h3 with rfl | rfl
        · exact ⟨4, by omega, by omega, rfl, rfl⟩
        · exact ⟨5, by omega, by omega, rfl, rfl⟩
  · rw [if_neg cd, if_pos rfl, if_neg cd, if_neg cd]
    by_cases cm : m_mode M = md
    · rw [if_pos cm, if_pos cm.symm, if_pos cm.symm]
      rcases h2 with rfl | rfl <;> rcases h3 with rfl | rfl
      · exact ⟨1, by omega, by omega, rfl, rfl⟩
      · exact ⟨2, by omega, by omega, rfl, rfl⟩
      · exact ⟨1, by omega, by omega, rfl, rfl⟩
      · exact ⟨2, by omega, by omega, rfl, rfl⟩
    · rw [if_neg cm, if_neg (show ¬ md = m_mode M from fun q => cm q.symm), if_neg (show ¬ md = m_mode M from fun q => cm q.symm)]
      rcases h2 with rfl | rfl <;> rcases h3 with rfl | rfl
      · exact ⟨4, by omega, by omega, rfl, rfl⟩
      · exact ⟨5, by omega, by omega, rfl, rfl⟩
      · exact ⟨4, by omega, by omega, rfl, rfl⟩
      · exact ⟨5, by omega, by omega, rfl, rfl⟩
theorem b374_t (M : CS) {x4 x6 x11 md y : Int32} (h : ¬ x4 = 0) : m_work_b374 M x4 x6 x11 md y = m_work_b417 M x4 x6 x11 md ∧ o_m_work_b374 M x4 x6 x11 md y := by
  unfold m_work_b374 o_m_work_b374 m_work_b395 o_m_work_b395
  rw [if_neg h, if_neg h]
  exact ⟨rfl, fun q => absurd q h, fun _ => ⟨fun q => absurd q h, fun _ => trivial⟩⟩
theorem b374_15 (M : CS) {x6 x11 md y : Int32} (h : x11 = 15) : m_work_b374 M 0 x6 x11 md y = m_work_b417 (sI M 3 (y &&& 67108860)) 0 x6 x11 md ∧ o_m_work_b374 M 0 x6 x11 md y := by
  have h' : (15 : Int32) ≤ x11 := by rw [h]; decide
  unfold m_work_b374 o_m_work_b374 m_work_b395 o_m_work_b395
  rw [if_pos rfl, if_pos h, if_pos rfl, if_pos h']
  exact ⟨rfl, fun _ => ⟨fun _ => ⟨fun _ => ⟨fun _ => trivial, fun q => absurd h' q⟩, fun q => absurd rfl q⟩, fun q => absurd h q⟩, fun q => absurd rfl q⟩
theorem b374_r (M : CS) {x6 md y : Int32} {d : Nat} (h : d < 15) : m_work_b374 M 0 x6 (nI d) md y = m_work_b417 (m_give M md (nI d) y) 0 x6 (nI d) md ∧ (o_m_give M md (nI d) y → o_m_work_b374 M 0 x6 (nI d) md y) := by
  have h1 : ¬ nI d = 15 := nI_n15 h
  have h' : ¬ (15 : Int32) ≤ nI d := nI_ge (b := 15) h (by decide)
  unfold m_work_b374 o_m_work_b374 m_work_b395 o_m_work_b395
  rw [if_pos rfl, if_neg h1, if_pos rfl, if_neg h']
  exact ⟨rfl, fun o => ⟨fun _ => ⟨fun q => absurd q h1, fun _ => ⟨fun _ => ⟨fun q => absurd q h', fun _ => ⟨o, trivial⟩⟩, fun q => absurd rfl q⟩⟩, fun q => absurd rfl q⟩⟩
theorem b177_is {w : Int32} {S : CS} (hw : gI S 32 = w) (x2 x3 y md d : Int32) : cProcessor_work_b177 S x2 x3 y md d = cProcessor_work_b194 (bif bt w 20 then cProcessor_setSignsOfWork S d y else S) x2 x3 md d := by
  unfold cProcessor_work_b177
  rw [is_w hw 1048576 20 (by decide) (by decide)]
  cases bt w 20
  · exact if_pos rfl
  · exact if_neg (by decide)
theorem work_end {N : Nat} {w : Int32} {st mt S1 : CS} (h : RI N w st mt) (F1 : Fr [33, 34] [] [] st S1) {c : Int32} (h33 : gI S1 33 = c) (h34 : decide (¬ gI S1 34 = 0) = bt (gI mt 1) 28) {op : Nat} (hop : op < 16) (a b : Int32) {x2 x3 : Int32} (h2 : b01 x2) (h3 : b01 x3) :
    o_m_work_b315 (sI mt 4 c) w (nI op) (bif bt w 20 then 1 else 0) x2 x3 a b ∧ Dn N mt (cProcessor_work_b146 (cProcessor_worked S1 (nI op) a b).1 x2 x3 (cProcessor_worked S1 (nI op) a b).2) (m_work_b315 (sI mt 4 c) w (nI op) (bif bt w 20 then 1 else 0) x2 x3 a b) := by
  have hM : RI N w S1 (sI mt 4 c) := h.fr (F1.mono (by decide) (by decide) (by decide)) (Fr.sI _ _ _ _ _ _ (by decide))
  obtain ⟨S2, y, e1, F2, e2, e3⟩ := res_eq hM.sg (M := sI mt 4 c) h33 h34 hop a b
  have hM2 : RI N w S2 (sI mt 4 c) := hM.fr (F2.mono (by decide) (by decide) (by decide)) (Fr.rf _ _ _ _)
  rw [e1]
  have g0 : gI (sI mt 4 c) 0 = gI mt 0 := rfl
  have gb : gB (sI mt 4 c) = gB mt := rfl
  generalize sI mt 4 c = M1 at hM hM2 e2 e3 g0 gb
  obtain ⟨d, hd, ed⟩ := rng_and (ushr w 12) (m := 15) 4 rfl
  have ed' : (w >>> ((12 : Int32) &&& 31)) &&& 15 = nI d := by rw [f_12]; exact ed
  obtain ⟨md, hmd, emd⟩ := mode_N M1
  have emc : cRegisters_mode S2 = nI md := (sg_mode hM2.sg).trans emd
  have z : ¬ (1 : Int32) = 0 := by decide
  have edc : cProcessor_part S2 12 = nI d := by unfold cProcessor_part; rw [hM2.2.2.2.2]; exact ed
  have hC : cProcessor_work_b146 S2 x2 x3 y = cProcessor_work_b177 (if x2 = 0 then cProcessor_becomeOrGoTo S2 (nI d) y else S2) x2 x3 y (nI md) (nI d) := by
    unfold cProcessor_work_b146
    rw [edc, emc]
    split <;> rfl
  -- the reference up to the write
  have hR : ∃ M2, m_work_b315 M1 w (nI op) (bif bt w 20 then 1 else 0) x2 x3 a b = m_work_b374 M2 x2 x3 (nI d) (nI md) y ∧ (o_m_work_b374 M2 x2 x3 (nI d) (nI md) y → o_m_work_b315 M1 w (nI op) (bif bt w 20 then 1 else 0) x2 x3 a b) ∧ M2 = (bif bt w 20 then (if d = 15 then m_setSigns M1 y else sI M1 1 (fl4 (gI M1 1) (bt y 31) (decide (y = 0)) (decide (¬ gI S2 33 = 0)) (decide (¬ gI S2 34 = 0)))) else M1) := by
    unfold m_work_b315 o_m_work_b315 m_work_b351 o_m_work_b351 m_work_b352 o_m_work_b352 m_work_b355 o_m_work_b355
    rw [ed', emd, e2, e3]
    cases bt w 20
    · refine ⟨M1, ?_, ?_, rfl⟩
      · show (if (0 : Int32) = 0 then (if (0 : Int32) = 0 then _ else _) else _) = _
        rw [if_pos rfl, if_pos rfl]
      · intro o
        exact ⟨fun _ => ⟨fun _ => o, fun q => absurd rfl q⟩, fun q => absurd rfl q⟩
    · by_cases c15 : d = 15
      · have k15 : nI d = 15 := by rw [c15]; rfl
        have l15 : (15 : Int32) ≤ nI d := by rw [k15]; decide
        refine ⟨m_setSigns M1 y, ?_, ?_, ?_⟩
        · show (if (1 : Int32) = 0 then _ else (if (15 : Int32) ≤ nI d then (if (1 : Int32) = 0 then _ else (if nI d = 15 then _ else _)) else _)) = _
          rw [if_neg z, if_pos l15, if_neg z, if_pos k15]
        · intro o
          exact ⟨fun q => absurd q z, fun _ => ⟨fun _ => ⟨fun q => absurd q z, fun _ => ⟨fun _ => o, fun q => absurd k15 q⟩⟩, fun q => absurd l15 q⟩⟩
        · show _ = if d = 15 then _ else _
          rw [if_pos c15]
      · have k15 : ¬ nI d = 15 := nI_n15 (by omega)
        have l15 : ¬ (15 : Int32) ≤ nI d := nI_ge (b := 15) (by omega) (by decide)
        refine ⟨sI M1 1 (fl4 (gI M1 1) (bt y 31) (decide (y = 0)) (decide (¬ gI S2 33 = 0)) (decide (¬ gI S2 34 = 0))), ?_, ?_, ?_⟩
        · show (if (1 : Int32) = 0 then _ else (if (15 : Int32) ≤ nI d then _ else (if (1 : Int32) = 0 then _ else (if nI d = 15 then _ else _)))) = _
          rw [if_neg z, if_neg l15, if_neg z, if_neg k15]
        · intro o
          exact ⟨fun q => absurd q z, fun _ => ⟨fun q => absurd q l15, fun _ => ⟨fun q => absurd q z, fun _ => ⟨fun q => absurd q k15, fun _ => o⟩⟩⟩⟩
        · show _ = if d = 15 then _ else _
          rw [if_neg c15]
  obtain ⟨M2, r1, r2, r3⟩ := hR
  show _ ∧ Dn N mt (cProcessor_work_b146 S2 x2 x3 y) _
  rw [r1, hC]
  clear r1 hC e1 e2 e3
  have fin : ∀ (S M : CS), RI N w S M → gI M 0 = gI mt 0 → gB M 0 = gB mt 0 → Dn N mt (cProcessor_work_b194 S x2 x3 (nI md) (nI d)) (m_work_b417 M x2 x3 (nI d) (nI md)) := by
    intro S M hS q0 qB
    obtain ⟨t, t1, t2, t3, t4⟩ := work_tail hS h2 h3 (nI md) (d := d)
    rw [t3, t4]
    exact Dn.of hS q0 qB t1 t2
  rcases h2 with rfl | rfl
  · -- the result is kept
    rw [if_pos rfl]
    by_cases c15 : d = 15
    · have k15 : nI d = 15 := by rw [c15]; rfl
      have eb : cProcessor_becomeOrGoTo S2 (nI d) y = cRegisters_goTo S2 y := by
        unfold cProcessor_becomeOrGoTo cProcessor_becomeOrGoTo_b14
        rw [if_pos k15]
      obtain ⟨q1, q2⟩ := b374_15 M2 (x6 := x3) (md := nI md) (y := y) k15
      refine ⟨r2 q2, ?_⟩
      have hg := hM2.goTo y
      rw [eb, b177_is (w := w) hg.2.2.2.2, q1]
      rw [r3]
      cases bt w 20
      · exact fin _ _ hg g0 (congrFun gb 0)
      · show Dn N mt (cProcessor_work_b194 (cProcessor_setSignsOfWork (cRegisters_goTo S2 y) (nI d) y) 0 x3 (nI md) (nI d)) (m_work_b417 (sI (if d = 15 then m_setSigns M1 y else _) 3 _) 0 x3 (nI d) (nI md))
        rw [if_pos c15]
        have es : cProcessor_setSignsOfWork (cRegisters_goTo S2 y) (nI d) y = cRegisters_setSigns (cRegisters_goTo S2 y) y := by
          unfold cProcessor_setSignsOfWork cProcessor_setSignsOfWork_b14
          rw [if_pos k15]
        obtain ⟨s', j1, j2⟩ := (hM2.setSigns y).2
        obtain ⟨j3, -⟩ := hg.setSigns y
        rw [j2, sI_comm M1 (by decide)] at j3
        rw [es, j1]
        exact fin _ _ j3 g0 (congrFun gb 0)
    · have k15 : ¬ nI d = 15 := nI_n15 (by omega)
      have eb : cProcessor_becomeOrGoTo S2 (nI d) y = cRegisters_become S2 (nI md) (nI d) y := by
        unfold cProcessor_becomeOrGoTo cProcessor_become
        rw [if_neg k15, emc]
      obtain ⟨q1, q2⟩ := b374_r M2 (x6 := x3) (md := nI md) (y := y) (d := d) (by omega)
      obtain ⟨v1, v2, v3, v4, v5⟩ := hM2.give hmd (j := d) (by omega) y
      rw [eb, b177_is (w := w) v2.2.2.2.2, q1]
      rw [r3] at r2 q2 ⊢
      cases b20 : bt w 20
      · rw [b20] at r2 q2
        refine ⟨r2 (q2 v1), ?_⟩
        exact fin _ (m_give M1 (nI md) (nI d) y) v2 (by rw [v3]; exact g0) (by rw [v4]; exact congrFun gb 0)
      · rw [b20] at r2 q2
        have e15 : (bif true then (if d = 15 then m_setSigns M1 y else sI M1 1 (fl4 (gI M1 1) (bt y 31) (decide (y = 0)) (decide (¬ gI S2 33 = 0)) (decide (¬ gI S2 34 = 0)))) else M1) = sI M1 1 (fl4 (gI M1 1) (bt y 31) (decide (y = 0)) (decide (¬ gI S2 33 = 0)) (decide (¬ gI S2 34 = 0))) := if_neg c15
        rw [e15] at r2 q2 ⊢
        have v1' : o_m_give (sI M1 1 (fl4 (gI M1 1) (bt y 31) (decide (y = 0)) (decide (¬ gI S2 33 = 0)) (decide (¬ gI S2 34 = 0)))) (nI md) (nI d) y := v1
        refine ⟨r2 (q2 v1'), ?_⟩
        have es : (bif true then cProcessor_setSignsOfWork (cRegisters_become S2 (nI md) (nI d) y) (nI d) y else cRegisters_become S2 (nI md) (nI d) y) = cRegisters_setCarryAndOverflow (cRegisters_setResultSigns (cRegisters_become S2 (nI md) (nI d) y) y) (gI (cRegisters_become S2 (nI md) (nI d) y) 33) (gI (cRegisters_become S2 (nI md) (nI d) y) 34) := by
          show cProcessor_setSignsOfWork _ _ _ = _
          unfold cProcessor_setSignsOfWork cProcessor_setSignsOfWork_b25
          rw [if_neg k15]
          unfold cRegisters_setResultSigns
          split <;> rfl
        have j3 := v2.sign4 y
        rw [es, give_sI M1 (by omega)]
        rw [v3] at j3
        exact fin _ _ j3 (by show gI (m_give M1 (nI md) (nI d) y) 0 = _; rw [v3]; exact g0) (by show gB (m_give M1 (nI md) (nI d) y) 0 = _; rw [v4]; exact congrFun gb 0)
  · rw [if_neg z]
    obtain ⟨q1, q2⟩ := b374_t M2 (x4 := 1) (x6 := x3) (x11 := nI d) (md := nI md) (y := y) z
    refine ⟨r2 q2, ?_⟩
    rw [b177_is (w := w) hM2.2.2.2.2, q1, r3]
    cases bt w 20
    · exact fin _ _ hM2 g0 (congrFun gb 0)
    · by_cases c15 : d = 15
      · have k15 : nI d = 15 := by rw [c15]; rfl
        have e15 : (bif true then (if d = 15 then m_setSigns M1 y else sI M1 1 (fl4 (gI M1 1) (bt y 31) (decide (y = 0)) (decide (¬ gI S2 33 = 0)) (decide (¬ gI S2 34 = 0)))) else M1) = m_setSigns M1 y := if_pos c15
        have es : (bif true then cProcessor_setSignsOfWork S2 (nI d) y else S2) = cRegisters_setSigns S2 y := by
          show cProcessor_setSignsOfWork _ _ _ = _
          unfold cProcessor_setSignsOfWork cProcessor_setSignsOfWork_b14
          rw [if_pos k15]
        rw [e15, es]
        obtain ⟨j1, s', j2, -⟩ := hM2.setSigns y
        rw [j2] at j1 ⊢
        exact fin _ _ j1 g0 (congrFun gb 0)
      · have k15 : ¬ nI d = 15 := nI_n15 (by omega)
        have e15 : (bif true then (if d = 15 then m_setSigns M1 y else sI M1 1 (fl4 (gI M1 1) (bt y 31) (decide (y = 0)) (decide (¬ gI S2 33 = 0)) (decide (¬ gI S2 34 = 0)))) else M1) = sI M1 1 (fl4 (gI M1 1) (bt y 31) (decide (y = 0)) (decide (¬ gI S2 33 = 0)) (decide (¬ gI S2 34 = 0))) := if_neg c15
        have es : (bif true then cProcessor_setSignsOfWork S2 (nI d) y else S2) = cRegisters_setCarryAndOverflow (cRegisters_setResultSigns S2 y) (gI S2 33) (gI S2 34) := by
          show cProcessor_setSignsOfWork _ _ _ = _
          unfold cProcessor_setSignsOfWork cProcessor_setSignsOfWork_b25
          rw [if_neg k15]
          unfold cRegisters_setResultSigns
          split <;> rfl
        rw [e15, es]
        exact fin _ _ (hM2.sign4 y) g0 (congrFun gb 0)
