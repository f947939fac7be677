/-! THE LAW'S HELPERS: a call that may throw, caught -/
def wLw : List Cond := [.classLink RL 8 RX10, .classLink RL 31 RX11, .methodLink RL 30 yX10_init, .methodLink RL 33 yX11_init, .methodLink RL 34 yX10_reset, .methodLink RL 37 yX11_reset, .methodLink RL 38 yX10_poke, .methodLink RL 42 yX11_poke, .methodLink RL 43 yL_peek, .static yL_peek, .initialized RL, .codeWith yL_peek cL_peek 4 (some .int) [(0, 9, 12, 13)], .classLink RL 13 "java/lang/IndexOutOfBoundsException", .methodLink RL 7 yX10_peek, .methodLink RL 48 yX11_peek, .methodLink RL 49 yX11_thrown, .methodLink RL 53 yX10_store, .methodLink RL 56 yX11_store, .methodLink RL 57 yL_stored, .static yL_stored, .codeWith yL_stored cL_stored 5 (some .int) [(0, 10, 13, 13)], .methodLink RL 15 yX10_stored, .methodLink RL 60 yX11_stored, .methodLink RL 61 yX10_key, .methodLink RL 65 yX11_key, .methodLink RL 66 yL_step, .static yL_step, .codeWith yL_step cL_step 4 (some .int) [(0, 9, 12, 22)], .classLink RL 22 "java/lang/IllegalArgumentException", .methodLink RL 19 yX10_step, .methodLink RL 68 yX11_step, .methodLink RL 69 yL_run, .static yL_run, .codeWith yL_run cL_run 4 (some .int) [(0, 9, 12, 22)], .methodLink RL 24 yX10_run, .methodLink RL 71 yX11_run, .methodLink RL 72 yX10_stopAt, .methodLink RL 75 yX11_stopAt, .methodLink RL 76 yL_register, .static yL_register, .codeWith yL_register cL_register 5 (some .int) [(0, 10, 13, 13)], .methodLink RL 27 yX10_register, .methodLink RL 78 yX11_register, .methodLink RL 79 yX10_put, .methodLink RL 82 yX11_put, .methodLink RL 83 yX10_entry, .methodLink RL 86 yX11_entry, .methodLink RL 87 yX10_device, .methodLink RL 90 yX11_device, .methodLink RL 91 yX10_allowed, .methodLink RL 95 yX11_allowed, .methodLink RL 96 yX10_count, .methodLink RL 100 yX11_count, .methodLink RL 101 yX10_look, .methodLink RL 104 yX11_look, .methodLink RL 105 yX10_place, .methodLink RL 108 yX11_place, .methodLink RL 109 yX10_letter, .methodLink RL 112 yX11_letter]
def wAL : List Cond := wLw ++ wAX
theorem wLw_g : wLw.all goodWord = true := by decide +kernel
theorem wAX_in {w : Cond} (h : w ∈ wAX) : w ∈ wAL := List.mem_append_right _ h
theorem wLw_in {w : Cond} (h : w ∈ wLw) : w ∈ wAL := List.mem_append_left _ h
theorem wAL_ok : ∀ w ∈ wAL, ((w.onTables && w.keeps) = true ∨ ∃ ty, w = .arrayClass ty) := by
  intro w h
  rcases List.mem_append.mp h with h | h
  · exact good_of_word (List.all_eq_true.mp wLw_g w h)
  · exact wAX_ok w h
theorem gl_V (c1 : Cond) {c2 : Cond} {own C : String} {idx : Nat} {y : MethodName} {B : List Cond} (hB : ∀ w ∈ B, w ∈ wAL) (h1 : .methodLink own idx y ∈ wAL) (h2 : .instanceMethod y ∈ wAL) (h3 : .selects C y y ∈ wAL) (h4 : .initialized C ∈ wAL) (hc : c2 ∈ wAL) : GoodIn (c1 :: wAL) (wsV own idx C y (c2 :: B)) := by
  intro w h
  have hw : w ∈ wAL := by
    rcases List.mem_append.mp h with h | h
    · simp only [List.mem_cons, List.not_mem_nil, or_false] at h
      rcases h with rfl | rfl | rfl | rfl
      · exact h1
      · exact h2
      · exact h3
      · exact h4
    · rcases List.mem_cons.mp h with rfl | h
      · exact hc
      · exact hB w h
  exact ⟨List.mem_cons_of_mem _ hw, wAL_ok _ hw⟩
theorem xBlind {E : String} {is : Nat} {text : String} {D : va_G} {cl : List vw_C} {ty : List (ClassId × FieldType)} {w : CS → va_W} {Z : zT} {st : CS} (hzo : zOk Z) (av : List Value) (sz : Nat) : FrameBlind (va_Pc av (xP E is text D cl ty w Z sz st)) := by
  intro a U g mk q
  obtain ⟨q0, q1, q2⟩ := q
  have h := cBlind (D := D) (cl := cl) (ty := ty) (w := w) (st := st) hzo av sz a U g mk ⟨q0, q1⟩
  exact ⟨h.1, h.2, q2.same (U := U.calling g mk a) rfl (Vm.Alike.refl U.vm)⟩
/-- how a helper ends -/
def lR (X : Option (CS × Int32)) (st : CS) (ov : Nat → Int64) (r : Int32) (u : CS × (Nat → Int64)) : Prop := (X = none ∧ r = 1 ∧ u = (st, ov)) ∨ (∃ Y : CS × Int32, X = some Y ∧ r = 0 ∧ u = (Y.1, vp_updL ov (0 : Int32).toNatClampNeg Y.2.toInt64))
def hP0 (E : String) (is : Nat) (text : String) (g : Gm) (qo : Nat) (cJ : ClassId) (st : CS) (ov : Nat → Int64) (sz : Nat) (U : State) : Prop :=
  U.heap.size = sz ∧ va_P (gD g) vwCl (cw g st) U.heap ∧ va_P (gD g) vwCl (oW qo cJ ov) U.heap ∧ va_K (gD g) vwCl (cty g) U ∧ va_K (gD g) vwCl [(cJ, .long)] U ∧ va_D (fun _ => True) (cw g st ++ oW qo cJ ov) ∧ cz g (va_A (cw g st ++ oW qo cJ ov) sz) U U.heap ∧ tP E is text (va_A (cw g st ++ oW qo cJ ov) sz) U U.heap
abbrev wqL_peek : List Cond := .codeWith yL_peek cL_peek 4 (some .int) [(0, 9, 12, 13)] :: wAL
abbrev rmL_peek : Room := { frames := 7, cells := 1, slots := 6, locals := 103 }
theorem ydL_peek : yL_peek.cls ≠ "java/lang/invoke/MethodHandle" ∧ yL_peek.cls ≠ "java/lang/invoke/VarHandle" ∧ (parseMethodDescriptor yL_peek.desc).map (fun d => d.parameters.length) = some 3 := by decide +kernel
set_option maxHeartbeats 4000000 in
set_option maxRecDepth 100000 in
theorem c_L_peek (l : Launch) (hl0 : l.stackTraces = false) (g : Gm) (qo : Nat) (cJ : ClassId) (st : CS) (ov : Nat → Int64) (x1 : Int32) (sz : Nat) : Met l yL_peek wqL_peek rmL_peek (va_Pc [.ref (gad g 0), .int x1, .ref qo] (hP0 "java/lang/IndexOutOfBoundsException" 95 "no such word of MEMORY" g qo cJ st ov sz)) (va_Qi (fun r (u : CS × (Nat → Int64)) => lR (cPageBoard_peek st x1) st ov r u) (fun u t => va_P (gD g) vwCl (cw g u.1) t.heap ∧ va_P (gD g) vwCl (oW qo cJ u.2) t.heap) (va_A (cw g st ++ oW qo cJ ov) sz)) 1 6 (va_A (cw g st ++ oW qo cJ ov) sz) := by
  refine va_MetW (cc := cL_peek) (maxL := 4) (ret := (some .int)) (hh := [(0, 9, 12, 13)]) (by decide) rfl ?_
  intro p e s m args below meth c s₁ B hml hv
  obtain ⟨rfl, hsz, hPc, hPo, hK, hKo, hD0, hZ, hT⟩ := hv
  have hx := B.exec
  have hb := B.bytes
  have hr := B.returns
  have hts := atoms_spec (ws := wqL_peek) B.pre
  have hown : s.vm.findClass RL = some m.cls := findClass_of_methodNamed B.named
  have hlocks := B.notSynchronized
  have htab := vx_table (x := yL_peek) B (hts _ List.mem_cons_self)
  subst hsz
  have hD := hD0.self (sz := s.heap.size)
  generalize hAe : va_A (cw g st ++ oW qo cJ ov) s.heap.size = A at hD hZ hT ⊢
  have hA : ∀ q : Nat, s.heap.size ≤ q → A q := fun q h => by rw [← hAe]; exact Or.inr h
  have hS : va_S A s.heap s.heap [] := va_S.rf
  have hl := lv_entry ([.ref (gad g 0), .int x1, .ref qo]) (n := 4) (Nat.le_of_ble_eq_true rfl)
  rw [lg_entry_eq]
  generalize (lg_sl ([.ref (gad g 0), .int x1, .ref qo]) ++ List.replicate (4 - (lg_sl ([.ref (gad g 0), .int x1, .ref qo])).length) Slot.unset).toArray = ls at hl ⊢
  have hl : lv_has ls 4 [(0, .ref (gad g 0)), (1, .int x1), (2, .ref qo)] := hl
  refine lv_aload_n hx hb dL_peek_0 rfl (lv_at hl 2 rfl) ?_
  refine lv_iconst (v := (0 : Int32)) hx hb dL_peek_1 (by decide) ?_
  refine lv_aload_n hx hb dL_peek_2 rfl (lv_at hl 0 rfl) ?_
  refine lv_iload_n hx hb dL_peek_3 rfl (lv_at hl 1 rfl) ?_
  have hDc : va_D A (cw g st) := dleft hD
  have hFc := cFree hA (⟨hPc, hDc, hS⟩ : cI (gD g) vwCl (cw g) A s st s.heap [])
  refine vx_calli (vx_runV (As := [.int x1]) (rest := [.int 0, .ref qo]) ⟨hx, hb, hml, hown, hts⟩ (c_cPageBoard_peek l hl0 g st x1 s.heap.size) (cwV 1 hts (gl_V _ (fun w h => wAX_in h) (wLw_in (List.mem_of_getElem? (i := 13) rfl)) (wAX_in (wAll_in mw241)) (wAX_in (wAll_in mw242)) (wAX_in (wAll_in mw1)) (wAX_in (wAll_in mw243))) rfl rfl rfl yd_yX10_peek ⟨Nat.le_of_ble_eq_true rfl, Nat.le_of_ble_eq_true rfl⟩) ⟨xBlind (cz_ok g) _ _, va_recv hK hPc (ci := 10) (q0 := 0) rfl rfl, fun U hU hW => ⟨rfl, cPre hK hA hZ (cz_ok g) (⟨hPc, hDc, hS⟩ : cI (gD g) vwCl (cw g) A s st s.heap []) U hU hW, by rw [hU]; exact hT.warm hW (fun _ _ _ => rfl) hFc⟩⟩ rfl rfl hl.1 rfl (lv_room (Nat.le_of_ble_eq_true rfl)) dL_peek_4 ⟨Nat.le_of_ble_eq_true rfl, Nat.le_of_ble_eq_true rfl⟩) hS (fun q _ h => hFc q h) hFc (fun q _ h => hFc q h) (fun E ce q9 u t H1 locs ht hvm hpx hBX hz1 hk1 hS hcell hv9 hcl => ?_) (fun r u t H1 locs ht hvm hw hB hz1 hk1 hS => ?_)
  · obtain ⟨rfl, hP1, hK1, hD1⟩ := hBX
    rw [ht] at hP1
    have hPo1 := keepO hD hPo hk1
    refine vx_catch (own := RL) (name := "java/lang/IndexOutOfBoundsException") hown [] ⟨0, 9, 12, 13⟩ [] htab (fun z h => absurd h List.not_mem_nil) (by decide) (by decide) (hts _ (List.mem_cons_of_mem _ (wLw_in (List.mem_of_getElem? (i := 12) rfl)))) (hT.2.2.2.2.2.2.use rfl) hcell hv9 hcl ?_
    refine lv_astore_n (lv' := [(3, .ref q9), (0, .ref (gad g 0)), (1, .int x1), (2, .ref qo)]) hx hb dL_peek_12 rfl hl (by decide) rfl (fun ls hl => ?_)
    refine lv_iconst (v := (1 : Int32)) hx hb dL_peek_13 (by decide) ?_
    exact W.iret (v := 1) hx hb hr (fun t' ht' hW => ⟨⟨1, (st, ov), rfl, Or.inl ⟨hpx, rfl, rfl⟩, by rw [ht']; exact hP1, by rw [ht']; exact hPo1⟩, hS.F ht'⟩) hS.2.2 dL_peek_14
  · obtain ⟨hP1, hK1, hD1⟩ := hB
    rw [ht] at hP1
    have hPo1 := keepO hD hPo hk1
    have hD2 : va_D A (cw g u ++ oW qo cJ ov) := dcong (by rfl) hD
    refine lv_i2l (v := r.toInt64) hx hb dL_peek_7 rfl ?_
    refine va_last (f := ov) hx hb (hK.app hKo) (hP1.app hPo1) hD2 hS 22 10 rfl rfl (by unfold vp_in; decide) dL_peek_8 (fun H locs hP hD hS => ?_)
    have hP : va_P (gD g) vwCl (cw g u ++ oW qo cJ (vp_updL ov (0 : Int32).toNatClampNeg r.toInt64)) H := hP
    refine lv_goto (tgt := 15) hx hb dL_peek_9 (by decide) ?_
    refine lv_iconst (v := (0 : Int32)) hx hb dL_peek_15 (by decide) ?_
    exact W.iret (v := 0) hx hb hr (fun t' ht' hW => ⟨⟨0, (u, vp_updL ov (0 : Int32).toNatClampNeg r.toInt64), rfl, Or.inr ⟨(u, r), hw, rfl, rfl⟩, by rw [ht']; exact (appP hP).1, by rw [ht']; exact (appP hP).2⟩, hS.F ht'⟩) hS.2.2 dL_peek_16
abbrev wqL_stored : List Cond := .codeWith yL_stored cL_stored 5 (some .int) [(0, 10, 13, 13)] :: wAL
abbrev rmL_stored : Room := { frames := 7, cells := 1, slots := 6, locals := 104 }
theorem ydL_stored : yL_stored.cls ≠ "java/lang/invoke/MethodHandle" ∧ yL_stored.cls ≠ "java/lang/invoke/VarHandle" ∧ (parseMethodDescriptor yL_stored.desc).map (fun d => d.parameters.length) = some 4 := by decide +kernel
set_option maxHeartbeats 4000000 in
set_option maxRecDepth 100000 in
theorem c_L_stored (l : Launch) (hl0 : l.stackTraces = false) (g : Gm) (qo : Nat) (cJ : ClassId) (st : CS) (ov : Nat → Int64) (x1 x2 : Int32) (sz : Nat) : Met l yL_stored wqL_stored rmL_stored (va_Pc [.ref (gad g 0), .int x1, .int x2, .ref qo] (hP0 "java/lang/IndexOutOfBoundsException" 108 "no such word of a SECTOR" g qo cJ st ov sz)) (va_Qi (fun r (u : CS × (Nat → Int64)) => lR (cPageBoard_stored st x1 x2) st ov r u) (fun u t => va_P (gD g) vwCl (cw g u.1) t.heap ∧ va_P (gD g) vwCl (oW qo cJ u.2) t.heap) (va_A (cw g st ++ oW qo cJ ov) sz)) 1 6 (va_A (cw g st ++ oW qo cJ ov) sz) := by
  refine va_MetW (cc := cL_stored) (maxL := 5) (ret := (some .int)) (hh := [(0, 10, 13, 13)]) (by decide) rfl ?_
  intro p e s m args below meth c s₁ B hml hv
  obtain ⟨rfl, hsz, hPc, hPo, hK, hKo, hD0, hZ, hT⟩ := hv
  have hx := B.exec
  have hb := B.bytes
  have hr := B.returns
  have hts := atoms_spec (ws := wqL_stored) B.pre
  have hown : s.vm.findClass RL = some m.cls := findClass_of_methodNamed B.named
  have hlocks := B.notSynchronized
  have htab := vx_table (x := yL_stored) B (hts _ List.mem_cons_self)
  subst hsz
  have hD := hD0.self (sz := s.heap.size)
  generalize hAe : va_A (cw g st ++ oW qo cJ ov) s.heap.size = A at hD hZ hT ⊢
  have hA : ∀ q : Nat, s.heap.size ≤ q → A q := fun q h => by rw [← hAe]; exact Or.inr h
  have hS : va_S A s.heap s.heap [] := va_S.rf
  have hl := lv_entry ([.ref (gad g 0), .int x1, .int x2, .ref qo]) (n := 5) (Nat.le_of_ble_eq_true rfl)
  rw [lg_entry_eq]
  generalize (lg_sl ([.ref (gad g 0), .int x1, .int x2, .ref qo]) ++ List.replicate (5 - (lg_sl ([.ref (gad g 0), .int x1, .int x2, .ref qo])).length) Slot.unset).toArray = ls at hl ⊢
  have hl : lv_has ls 5 [(0, .ref (gad g 0)), (1, .int x1), (2, .int x2), (3, .ref qo)] := hl
  refine lv_aload_n hx hb dL_stored_0 rfl (lv_at hl 3 rfl) ?_
  refine lv_iconst (v := (0 : Int32)) hx hb dL_stored_1 (by decide) ?_
  refine lv_aload_n hx hb dL_stored_2 rfl (lv_at hl 0 rfl) ?_
  refine lv_iload_n hx hb dL_stored_3 rfl (lv_at hl 1 rfl) ?_
  refine lv_iload_n hx hb dL_stored_4 rfl (lv_at hl 2 rfl) ?_
  have hDc : va_D A (cw g st) := dleft hD
  have hFc := cFree hA (⟨hPc, hDc, hS⟩ : cI (gD g) vwCl (cw g) A s st s.heap [])
  refine vx_calli (vx_runV (As := [.int x1, .int x2]) (rest := [.int 0, .ref qo]) ⟨hx, hb, hml, hown, hts⟩ (c_cPageBoard_stored l hl0 g st x1 x2 s.heap.size) (cwV 2 hts (gl_V _ (fun w h => wAX_in h) (wLw_in (List.mem_of_getElem? (i := 21) rfl)) (wAX_in (wAll_in mw272)) (wAX_in (wAll_in mw273)) (wAX_in (wAll_in mw1)) (wAX_in (wAll_in mw274))) rfl rfl rfl yd_yX10_stored ⟨Nat.le_of_ble_eq_true rfl, Nat.le_of_ble_eq_true rfl⟩) ⟨xBlind (cz_ok g) _ _, va_recv hK hPc (ci := 10) (q0 := 0) rfl rfl, fun U hU hW => ⟨rfl, cPre hK hA hZ (cz_ok g) (⟨hPc, hDc, hS⟩ : cI (gD g) vwCl (cw g) A s st s.heap []) U hU hW, by rw [hU]; exact hT.warm hW (fun _ _ _ => rfl) hFc⟩⟩ rfl rfl hl.1 rfl (lv_room (Nat.le_of_ble_eq_true rfl)) dL_stored_5 ⟨Nat.le_of_ble_eq_true rfl, Nat.le_of_ble_eq_true rfl⟩) hS (fun q _ h => hFc q h) hFc (fun q _ h => hFc q h) (fun E ce q9 u t H1 locs ht hvm hpx hBX hz1 hk1 hS hcell hv9 hcl => ?_) (fun r u t H1 locs ht hvm hw hB hz1 hk1 hS => ?_)
  · obtain ⟨rfl, hP1, hK1, hD1⟩ := hBX
    rw [ht] at hP1
    have hPo1 := keepO hD hPo hk1
    refine vx_catch (own := RL) (name := "java/lang/IndexOutOfBoundsException") hown [] ⟨0, 10, 13, 13⟩ [] htab (fun z h => absurd h List.not_mem_nil) (by decide) (by decide) (hts _ (List.mem_cons_of_mem _ (wLw_in (List.mem_of_getElem? (i := 12) rfl)))) (hT.2.2.2.2.2.2.use rfl) hcell hv9 hcl ?_
    refine lv_astore (lv' := [(4, .ref q9), (0, .ref (gad g 0)), (1, .int x1), (2, .int x2), (3, .ref qo)]) hx hb dL_stored_13 hl (by decide) rfl (fun ls hl => ?_)
    refine lv_iconst (v := (1 : Int32)) hx hb dL_stored_15 (by decide) ?_
    exact W.iret (v := 1) hx hb hr (fun t' ht' hW => ⟨⟨1, (st, ov), rfl, Or.inl ⟨hpx, rfl, rfl⟩, by rw [ht']; exact hP1, by rw [ht']; exact hPo1⟩, hS.F ht'⟩) hS.2.2 dL_stored_16
  · obtain ⟨hP1, hK1, hD1⟩ := hB
    rw [ht] at hP1
    have hPo1 := keepO hD hPo hk1
    have hD2 : va_D A (cw g u ++ oW qo cJ ov) := dcong (by rfl) hD
    refine lv_i2l (v := r.toInt64) hx hb dL_stored_8 rfl ?_
    refine va_last (f := ov) hx hb (hK.app hKo) (hP1.app hPo1) hD2 hS 22 10 rfl rfl (by unfold vp_in; decide) dL_stored_9 (fun H locs hP hD hS => ?_)
    have hP : va_P (gD g) vwCl (cw g u ++ oW qo cJ (vp_updL ov (0 : Int32).toNatClampNeg r.toInt64)) H := hP
    refine lv_goto (tgt := 17) hx hb dL_stored_10 (by decide) ?_
    refine lv_iconst (v := (0 : Int32)) hx hb dL_stored_17 (by decide) ?_
    exact W.iret (v := 0) hx hb hr (fun t' ht' hW => ⟨⟨0, (u, vp_updL ov (0 : Int32).toNatClampNeg r.toInt64), rfl, Or.inr ⟨(u, r), hw, rfl, rfl⟩, by rw [ht']; exact (appP hP).1, by rw [ht']; exact (appP hP).2⟩, hS.F ht'⟩) hS.2.2 dL_stored_18
abbrev wqL_step : List Cond := .codeWith yL_step cL_step 4 (some .int) [(0, 9, 12, 22)] :: wAL
abbrev rmL_step : Room := { frames := 8, cells := 1, slots := 6, locals := 188 }
theorem ydL_step : yL_step.cls ≠ "java/lang/invoke/MethodHandle" ∧ yL_step.cls ≠ "java/lang/invoke/VarHandle" ∧ (parseMethodDescriptor yL_step.desc).map (fun d => d.parameters.length) = some 3 := by decide +kernel
set_option maxHeartbeats 4000000 in
set_option maxRecDepth 100000 in
theorem c_L_step (l : Launch) (hl0 : l.stackTraces = false) (g : Gm) (qo : Nat) (cJ : ClassId) (st : CS) (ov : Nat → Int64) (x1 : Int32) (sz : Nat) : Met l yL_step wqL_step rmL_step (va_Pc [.ref (gad g 0), .int x1, .ref qo] (hP0 "java/lang/IllegalArgumentException" 120 "not 1 .. 5000 STEPS" g qo cJ st ov sz)) (va_Qi (fun r (u : CS × (Nat → Int64)) => lR (cPageBoard_step st x1) st ov r u) (fun u t => va_P (gD g) vwCl (cw g u.1) t.heap ∧ va_P (gD g) vwCl (oW qo cJ u.2) t.heap) (va_A (cw g st ++ oW qo cJ ov) sz)) 1 6 (va_A (cw g st ++ oW qo cJ ov) sz) := by
  refine va_MetW (cc := cL_step) (maxL := 4) (ret := (some .int)) (hh := [(0, 9, 12, 22)]) (by decide) rfl ?_
  intro p e s m args below meth c s₁ B hml hv
  obtain ⟨rfl, hsz, hPc, hPo, hK, hKo, hD0, hZ, hT⟩ := hv
  have hx := B.exec
  have hb := B.bytes
  have hr := B.returns
  have hts := atoms_spec (ws := wqL_step) B.pre
  have hown : s.vm.findClass RL = some m.cls := findClass_of_methodNamed B.named
  have hlocks := B.notSynchronized
  have htab := vx_table (x := yL_step) B (hts _ List.mem_cons_self)
  subst hsz
  have hD := hD0.self (sz := s.heap.size)
  generalize hAe : va_A (cw g st ++ oW qo cJ ov) s.heap.size = A at hD hZ hT ⊢
  have hA : ∀ q : Nat, s.heap.size ≤ q → A q := fun q h => by rw [← hAe]; exact Or.inr h
  have hS : va_S A s.heap s.heap [] := va_S.rf
  have hl := lv_entry ([.ref (gad g 0), .int x1, .ref qo]) (n := 4) (Nat.le_of_ble_eq_true rfl)
  rw [lg_entry_eq]
  generalize (lg_sl ([.ref (gad g 0), .int x1, .ref qo]) ++ List.replicate (4 - (lg_sl ([.ref (gad g 0), .int x1, .ref qo])).length) Slot.unset).toArray = ls at hl ⊢
  have hl : lv_has ls 4 [(0, .ref (gad g 0)), (1, .int x1), (2, .ref qo)] := hl
  refine lv_aload_n hx hb dL_step_0 rfl (lv_at hl 2 rfl) ?_
  refine lv_iconst (v := (0 : Int32)) hx hb dL_step_1 (by decide) ?_
  refine lv_aload_n hx hb dL_step_2 rfl (lv_at hl 0 rfl) ?_
  refine lv_iload_n hx hb dL_step_3 rfl (lv_at hl 1 rfl) ?_
  have hDc : va_D A (cw g st) := dleft hD
  have hFc := cFree hA (⟨hPc, hDc, hS⟩ : cI (gD g) vwCl (cw g) A s st s.heap [])
  refine vx_calli (vx_runV (As := [.int x1]) (rest := [.int 0, .ref qo]) ⟨hx, hb, hml, hown, hts⟩ (c_cPageBoard_step l hl0 g st x1 s.heap.size) (cwV 1 hts (gl_V _ (fun w h => wAX_in h) (wLw_in (List.mem_of_getElem? (i := 29) rfl)) (wAX_in (wAll_in mw293)) (wAX_in (wAll_in mw294)) (wAX_in (wAll_in mw1)) (wAX_in (wAll_in mw295))) rfl rfl rfl yd_yX10_step ⟨Nat.le_of_ble_eq_true rfl, Nat.le_of_ble_eq_true rfl⟩) ⟨xBlind (cz_ok g) _ _, va_recv hK hPc (ci := 10) (q0 := 0) rfl rfl, fun U hU hW => ⟨rfl, cPre hK hA hZ (cz_ok g) (⟨hPc, hDc, hS⟩ : cI (gD g) vwCl (cw g) A s st s.heap []) U hU hW, by rw [hU]; exact hT.warm hW (fun _ _ _ => rfl) hFc⟩⟩ rfl rfl hl.1 rfl (lv_room (Nat.le_of_ble_eq_true rfl)) dL_step_4 ⟨Nat.le_of_ble_eq_true rfl, Nat.le_of_ble_eq_true rfl⟩) hS (fun q _ h => hFc q h) hFc (fun q _ h => hFc q h) (fun E ce q9 u t H1 locs ht hvm hpx hBX hz1 hk1 hS hcell hv9 hcl => ?_) (fun r u t H1 locs ht hvm hw hB hz1 hk1 hS => ?_)
  · obtain ⟨rfl, hP1, hK1, hD1⟩ := hBX
    rw [ht] at hP1
    have hPo1 := keepO hD hPo hk1
    refine vx_catch (own := RL) (name := "java/lang/IllegalArgumentException") hown [] ⟨0, 9, 12, 22⟩ [] htab (fun z h => absurd h List.not_mem_nil) (by decide) (by decide) (hts _ (List.mem_cons_of_mem _ (wLw_in (List.mem_of_getElem? (i := 28) rfl)))) (hT.2.2.2.2.2.2.use rfl) hcell hv9 hcl ?_
    refine lv_astore_n (lv' := [(3, .ref q9), (0, .ref (gad g 0)), (1, .int x1), (2, .ref qo)]) hx hb dL_step_12 rfl hl (by decide) rfl (fun ls hl => ?_)
    refine lv_iconst (v := (1 : Int32)) hx hb dL_step_13 (by decide) ?_
    exact W.iret (v := 1) hx hb hr (fun t' ht' hW => ⟨⟨1, (st, ov), rfl, Or.inl ⟨hpx, rfl, rfl⟩, by rw [ht']; exact hP1, by rw [ht']; exact hPo1⟩, hS.F ht'⟩) hS.2.2 dL_step_14
  · obtain ⟨hP1, hK1, hD1⟩ := hB
    rw [ht] at hP1
    have hPo1 := keepO hD hPo hk1
    have hD2 : va_D A (cw g u ++ oW qo cJ ov) := dcong (by rfl) hD
    refine lv_i2l (v := r.toInt64) hx hb dL_step_7 rfl ?_
    refine va_last (f := ov) hx hb (hK.app hKo) (hP1.app hPo1) hD2 hS 22 10 rfl rfl (by unfold vp_in; decide) dL_step_8 (fun H locs hP hD hS => ?_)
    have hP : va_P (gD g) vwCl (cw g u ++ oW qo cJ (vp_updL ov (0 : Int32).toNatClampNeg r.toInt64)) H := hP
    refine lv_goto (tgt := 15) hx hb dL_step_9 (by decide) ?_
    refine lv_iconst (v := (0 : Int32)) hx hb dL_step_15 (by decide) ?_
    exact W.iret (v := 0) hx hb hr (fun t' ht' hW => ⟨⟨0, (u, vp_updL ov (0 : Int32).toNatClampNeg r.toInt64), rfl, Or.inr ⟨(u, r), hw, rfl, rfl⟩, by rw [ht']; exact (appP hP).1, by rw [ht']; exact (appP hP).2⟩, hS.F ht'⟩) hS.2.2 dL_step_16
abbrev wqL_run : List Cond := .codeWith yL_run cL_run 4 (some .int) [(0, 9, 12, 22)] :: wAL
abbrev rmL_run : Room := { frames := 8, cells := 1, slots := 6, locals := 189 }
theorem ydL_run : yL_run.cls ≠ "java/lang/invoke/MethodHandle" ∧ yL_run.cls ≠ "java/lang/invoke/VarHandle" ∧ (parseMethodDescriptor yL_run.desc).map (fun d => d.parameters.length) = some 3 := by decide +kernel
set_option maxHeartbeats 4000000 in
set_option maxRecDepth 100000 in
theorem c_L_run (l : Launch) (hl0 : l.stackTraces = false) (g : Gm) (qo : Nat) (cJ : ClassId) (st : CS) (ov : Nat → Int64) (x1 : Int32) (sz : Nat) : Met l yL_run wqL_run rmL_run (va_Pc [.ref (gad g 0), .int x1, .ref qo] (hP0 "java/lang/IllegalArgumentException" 131 "not 1 .. 20000 TICKS" g qo cJ st ov sz)) (va_Qi (fun r (u : CS × (Nat → Int64)) => lR (cPageBoard_run st x1) st ov r u) (fun u t => va_P (gD g) vwCl (cw g u.1) t.heap ∧ va_P (gD g) vwCl (oW qo cJ u.2) t.heap) (va_A (cw g st ++ oW qo cJ ov) sz)) 1 6 (va_A (cw g st ++ oW qo cJ ov) sz) := by
  refine va_MetW (cc := cL_run) (maxL := 4) (ret := (some .int)) (hh := [(0, 9, 12, 22)]) (by decide) rfl ?_
  intro p e s m args below meth c s₁ B hml hv
  obtain ⟨rfl, hsz, hPc, hPo, hK, hKo, hD0, hZ, hT⟩ := hv
  have hx := B.exec
  have hb := B.bytes
  have hr := B.returns
  have hts := atoms_spec (ws := wqL_run) B.pre
  have hown : s.vm.findClass RL = some m.cls := findClass_of_methodNamed B.named
  have hlocks := B.notSynchronized
  have htab := vx_table (x := yL_run) B (hts _ List.mem_cons_self)
  subst hsz
  have hD := hD0.self (sz := s.heap.size)
  generalize hAe : va_A (cw g st ++ oW qo cJ ov) s.heap.size = A at hD hZ hT ⊢
  have hA : ∀ q : Nat, s.heap.size ≤ q → A q := fun q h => by rw [← hAe]; exact Or.inr h
  have hS : va_S A s.heap s.heap [] := va_S.rf
  have hl := lv_entry ([.ref (gad g 0), .int x1, .ref qo]) (n := 4) (Nat.le_of_ble_eq_true rfl)
  rw [lg_entry_eq]
  generalize (lg_sl ([.ref (gad g 0), .int x1, .ref qo]) ++ List.replicate (4 - (lg_sl ([.ref (gad g 0), .int x1, .ref qo])).length) Slot.unset).toArray = ls at hl ⊢
  have hl : lv_has ls 4 [(0, .ref (gad g 0)), (1, .int x1), (2, .ref qo)] := hl
  refine lv_aload_n hx hb dL_run_0 rfl (lv_at hl 2 rfl) ?_
  refine lv_iconst (v := (0 : Int32)) hx hb dL_run_1 (by decide) ?_
  refine lv_aload_n hx hb dL_run_2 rfl (lv_at hl 0 rfl) ?_
  refine lv_iload_n hx hb dL_run_3 rfl (lv_at hl 1 rfl) ?_
  have hDc : va_D A (cw g st) := dleft hD
  have hFc := cFree hA (⟨hPc, hDc, hS⟩ : cI (gD g) vwCl (cw g) A s st s.heap [])
  refine vx_calli (vx_runV (As := [.int x1]) (rest := [.int 0, .ref qo]) ⟨hx, hb, hml, hown, hts⟩ (c_cPageBoard_run l hl0 g st x1 s.heap.size) (cwV 1 hts (gl_V _ (fun w h => wAX_in h) (wLw_in (List.mem_of_getElem? (i := 34) rfl)) (wAX_in (wAll_in mw943)) (wAX_in (wAll_in mw944)) (wAX_in (wAll_in mw1)) (wAX_in (wAll_in mw945))) rfl rfl rfl yd_yX10_run ⟨Nat.le_of_ble_eq_true rfl, Nat.le_of_ble_eq_true rfl⟩) ⟨xBlind (cz_ok g) _ _, va_recv hK hPc (ci := 10) (q0 := 0) rfl rfl, fun U hU hW => ⟨rfl, cPre hK hA hZ (cz_ok g) (⟨hPc, hDc, hS⟩ : cI (gD g) vwCl (cw g) A s st s.heap []) U hU hW, by rw [hU]; exact hT.warm hW (fun _ _ _ => rfl) hFc⟩⟩ rfl rfl hl.1 rfl (lv_room (Nat.le_of_ble_eq_true rfl)) dL_run_4 ⟨Nat.le_of_ble_eq_true rfl, Nat.le_of_ble_eq_true rfl⟩) hS (fun q _ h => hFc q h) hFc (fun q _ h => hFc q h) (fun E ce q9 u t H1 locs ht hvm hpx hBX hz1 hk1 hS hcell hv9 hcl => ?_) (fun r u t H1 locs ht hvm hw hB hz1 hk1 hS => ?_)
  · obtain ⟨rfl, hP1, hK1, hD1⟩ := hBX
    rw [ht] at hP1
    have hPo1 := keepO hD hPo hk1
    refine vx_catch (own := RL) (name := "java/lang/IllegalArgumentException") hown [] ⟨0, 9, 12, 22⟩ [] htab (fun z h => absurd h List.not_mem_nil) (by decide) (by decide) (hts _ (List.mem_cons_of_mem _ (wLw_in (List.mem_of_getElem? (i := 28) rfl)))) (hT.2.2.2.2.2.2.use rfl) hcell hv9 hcl ?_
    refine lv_astore_n (lv' := [(3, .ref q9), (0, .ref (gad g 0)), (1, .int x1), (2, .ref qo)]) hx hb dL_run_12 rfl hl (by decide) rfl (fun ls hl => ?_)
    refine lv_iconst (v := (1 : Int32)) hx hb dL_run_13 (by decide) ?_
    exact W.iret (v := 1) hx hb hr (fun t' ht' hW => ⟨⟨1, (st, ov), rfl, Or.inl ⟨hpx, rfl, rfl⟩, by rw [ht']; exact hP1, by rw [ht']; exact hPo1⟩, hS.F ht'⟩) hS.2.2 dL_run_14
  · obtain ⟨hP1, hK1, hD1⟩ := hB
    rw [ht] at hP1
    have hPo1 := keepO hD hPo hk1
    have hD2 : va_D A (cw g u ++ oW qo cJ ov) := dcong (by rfl) hD
    refine lv_i2l (v := r.toInt64) hx hb dL_run_7 rfl ?_
    refine va_last (f := ov) hx hb (hK.app hKo) (hP1.app hPo1) hD2 hS 22 10 rfl rfl (by unfold vp_in; decide) dL_run_8 (fun H locs hP hD hS => ?_)
    have hP : va_P (gD g) vwCl (cw g u ++ oW qo cJ (vp_updL ov (0 : Int32).toNatClampNeg r.toInt64)) H := hP
    refine lv_goto (tgt := 15) hx hb dL_run_9 (by decide) ?_
    refine lv_iconst (v := (0 : Int32)) hx hb dL_run_15 (by decide) ?_
    exact W.iret (v := 0) hx hb hr (fun t' ht' hW => ⟨⟨0, (u, vp_updL ov (0 : Int32).toNatClampNeg r.toInt64), rfl, Or.inr ⟨(u, r), hw, rfl, rfl⟩, by rw [ht']; exact (appP hP).1, by rw [ht']; exact (appP hP).2⟩, hS.F ht'⟩) hS.2.2 dL_run_16
abbrev wqL_register : List Cond := .codeWith yL_register cL_register 5 (some .int) [(0, 10, 13, 13)] :: wAL
abbrev rmL_register : Room := { frames := 7, cells := 1, slots := 6, locals := 104 }
theorem ydL_register : yL_register.cls ≠ "java/lang/invoke/MethodHandle" ∧ yL_register.cls ≠ "java/lang/invoke/VarHandle" ∧ (parseMethodDescriptor yL_register.desc).map (fun d => d.parameters.length) = some 4 := by decide +kernel
set_option maxHeartbeats 4000000 in
set_option maxRecDepth 100000 in
theorem c_L_register (l : Launch) (hl0 : l.stackTraces = false) (g : Gm) (qo : Nat) (cJ : ClassId) (st : CS) (ov : Nat → Int64) (x1 x2 : Int32) (sz : Nat) : Met l yL_register wqL_register rmL_register (va_Pc [.ref (gad g 0), .int x1, .int x2, .ref qo] (hP0 "java/lang/IndexOutOfBoundsException" 138 "no such register" g qo cJ st ov sz)) (va_Qi (fun r (u : CS × (Nat → Int64)) => lR (cPageBoard_register st x1 x2) st ov r u) (fun u t => va_P (gD g) vwCl (cw g u.1) t.heap ∧ va_P (gD g) vwCl (oW qo cJ u.2) t.heap) (va_A (cw g st ++ oW qo cJ ov) sz)) 1 6 (va_A (cw g st ++ oW qo cJ ov) sz) := by
  refine va_MetW (cc := cL_register) (maxL := 5) (ret := (some .int)) (hh := [(0, 10, 13, 13)]) (by decide) rfl ?_
  intro p e s m args below meth c s₁ B hml hv
  obtain ⟨rfl, hsz, hPc, hPo, hK, hKo, hD0, hZ, hT⟩ := hv
  have hx := B.exec
  have hb := B.bytes
  have hr := B.returns
  have hts := atoms_spec (ws := wqL_register) B.pre
  have hown : s.vm.findClass RL = some m.cls := findClass_of_methodNamed B.named
  have hlocks := B.notSynchronized
  have htab := vx_table (x := yL_register) B (hts _ List.mem_cons_self)
  subst hsz
  have hD := hD0.self (sz := s.heap.size)
  generalize hAe : va_A (cw g st ++ oW qo cJ ov) s.heap.size = A at hD hZ hT ⊢
  have hA : ∀ q : Nat, s.heap.size ≤ q → A q := fun q h => by rw [← hAe]; exact Or.inr h
  have hS : va_S A s.heap s.heap [] := va_S.rf
  have hl := lv_entry ([.ref (gad g 0), .int x1, .int x2, .ref qo]) (n := 5) (Nat.le_of_ble_eq_true rfl)
  rw [lg_entry_eq]
  generalize (lg_sl ([.ref (gad g 0), .int x1, .int x2, .ref qo]) ++ List.replicate (5 - (lg_sl ([.ref (gad g 0), .int x1, .int x2, .ref qo])).length) Slot.unset).toArray = ls at hl ⊢
  have hl : lv_has ls 5 [(0, .ref (gad g 0)), (1, .int x1), (2, .int x2), (3, .ref qo)] := hl
  refine lv_aload_n hx hb dL_register_0 rfl (lv_at hl 3 rfl) ?_
  refine lv_iconst (v := (0 : Int32)) hx hb dL_register_1 (by decide) ?_
  refine lv_aload_n hx hb dL_register_2 rfl (lv_at hl 0 rfl) ?_
  refine lv_iload_n hx hb dL_register_3 rfl (lv_at hl 1 rfl) ?_
  refine lv_iload_n hx hb dL_register_4 rfl (lv_at hl 2 rfl) ?_
  have hDc : va_D A (cw g st) := dleft hD
  have hFc := cFree hA (⟨hPc, hDc, hS⟩ : cI (gD g) vwCl (cw g) A s st s.heap [])
  refine vx_calli (vx_runV (As := [.int x1, .int x2]) (rest := [.int 0, .ref qo]) ⟨hx, hb, hml, hown, hts⟩ (c_cPageBoard_register l hl0 g st x1 x2 s.heap.size) (cwV 2 hts (gl_V _ (fun w h => wAX_in h) (wLw_in (List.mem_of_getElem? (i := 41) rfl)) (wAX_in (wAll_in mw958)) (wAX_in (wAll_in mw959)) (wAX_in (wAll_in mw1)) (wAX_in (wAll_in mw960))) rfl rfl rfl yd_yX10_register ⟨Nat.le_of_ble_eq_true rfl, Nat.le_of_ble_eq_true rfl⟩) ⟨xBlind (cz_ok g) _ _, va_recv hK hPc (ci := 10) (q0 := 0) rfl rfl, fun U hU hW => ⟨rfl, cPre hK hA hZ (cz_ok g) (⟨hPc, hDc, hS⟩ : cI (gD g) vwCl (cw g) A s st s.heap []) U hU hW, by rw [hU]; exact hT.warm hW (fun _ _ _ => rfl) hFc⟩⟩ rfl rfl hl.1 rfl (lv_room (Nat.le_of_ble_eq_true rfl)) dL_register_5 ⟨Nat.le_of_ble_eq_true rfl, Nat.le_of_ble_eq_true rfl⟩) hS (fun q _ h => hFc q h) hFc (fun q _ h => hFc q h) (fun E ce q9 u t H1 locs ht hvm hpx hBX hz1 hk1 hS hcell hv9 hcl => ?_) (fun r u t H1 locs ht hvm hw hB hz1 hk1 hS => ?_)
  · obtain ⟨rfl, hP1, hK1, hD1⟩ := hBX
    rw [ht] at hP1
    have hPo1 := keepO hD hPo hk1
    refine vx_catch (own := RL) (name := "java/lang/IndexOutOfBoundsException") hown [] ⟨0, 10, 13, 13⟩ [] htab (fun z h => absurd h List.not_mem_nil) (by decide) (by decide) (hts _ (List.mem_cons_of_mem _ (wLw_in (List.mem_of_getElem? (i := 12) rfl)))) (hT.2.2.2.2.2.2.use rfl) hcell hv9 hcl ?_
    refine lv_astore (lv' := [(4, .ref q9), (0, .ref (gad g 0)), (1, .int x1), (2, .int x2), (3, .ref qo)]) hx hb dL_register_13 hl (by decide) rfl (fun ls hl => ?_)
    refine lv_iconst (v := (1 : Int32)) hx hb dL_register_15 (by decide) ?_
    exact W.iret (v := 1) hx hb hr (fun t' ht' hW => ⟨⟨1, (st, ov), rfl, Or.inl ⟨hpx, rfl, rfl⟩, by rw [ht']; exact hP1, by rw [ht']; exact hPo1⟩, hS.F ht'⟩) hS.2.2 dL_register_16
  · obtain ⟨hP1, hK1, hD1⟩ := hB
    rw [ht] at hP1
    have hPo1 := keepO hD hPo hk1
    have hD2 : va_D A (cw g u ++ oW qo cJ ov) := dcong (by rfl) hD
    refine lv_i2l (v := r.toInt64) hx hb dL_register_8 rfl ?_
    refine va_last (f := ov) hx hb (hK.app hKo) (hP1.app hPo1) hD2 hS 22 10 rfl rfl (by unfold vp_in; decide) dL_register_9 (fun H locs hP hD hS => ?_)
    have hP : va_P (gD g) vwCl (cw g u ++ oW qo cJ (vp_updL ov (0 : Int32).toNatClampNeg r.toInt64)) H := hP
    refine lv_goto (tgt := 17) hx hb dL_register_10 (by decide) ?_
    refine lv_iconst (v := (0 : Int32)) hx hb dL_register_17 (by decide) ?_
    exact W.iret (v := 0) hx hb hr (fun t' ht' hW => ⟨⟨0, (u, vp_updL ov (0 : Int32).toNatClampNeg r.toInt64), rfl, Or.inr ⟨(u, r), hw, rfl, rfl⟩, by rw [ht']; exact (appP hP).1, by rw [ht']; exact (appP hP).2⟩, hS.F ht'⟩) hS.2.2 dL_register_18
