abbrev wq_X11_statusA : List Cond := .code yX11_statusA cX11_statusA 1 (some .int) :: wAll
theorem yd_yX11_statusA : yX11_statusA.cls = RX11 ∧ yX11_statusA.cls ≠ "java/lang/invoke/MethodHandle" ∧ yX11_statusA.cls ≠ "java/lang/invoke/VarHandle" ∧ (parseMethodDescriptor yX11_statusA.desc).map (fun d => d.parameters.length) = some 0 := by decide +kernel
abbrev rm_m_statusA : Room := { frames := 0, cells := 0, slots := 0, locals := 0 }
def m_statusA (st : CS) : Int32 := ((((128 : Int32) ||| (((gA st 12) (1 : Int32).toNatClampNeg) <<< ((6 : Int32) &&& 31))) ||| (((gA st 12) (0 : Int32).toNatClampNeg) <<< ((5 : Int32) &&& 31))) ||| ((gI st 9) <<< ((3 : Int32) &&& 31)))
set_option maxHeartbeats 4000000 in
set_option maxRecDepth 100000 in
theorem k_m_statusA {p : Program} {l : Launch} {e : Env} {s : State} {m : MethodId} {args : Array Value} {below : List Frame} {meth : Method} {c : Code} {A : Nat → Prop} (g : Gm) (C : cX p s m args meth c A cX11_statusA (some .int) 1 RX11 wq_X11_statusA (gD g) vwCl (mty g) (mz g)) (st : CS) (H : Heap) (locs : List Loc) (ls : Array Slot) (hI : cI (gD g) vwCl (mw g) A s st H locs) (hl : lv_has ls 1 [(0, .ref (gad g 0))]) (X : Int32) (hF : X = m_statusA st) : W p l e rm_m_statusA s m args below meth c H locs 0 0 (MQ below (cQi (gD g) vwCl (mty g) (mw g) A st X) args s 0 0 A) (F0 m 0 ls []) := by
  obtain ⟨hx, hb, hr, hml, hown, hts, hlocks, hK, hA, hZ, hzo⟩ := id C
  unfold m_statusA at hF
  refine lv_sipush (v := (128 : Int32)) hx hb dX11_statusA_0 (by decide) ?_
  refine lv_aload_n hx hb dX11_statusA_3 rfl (lv_at hl 0 rfl) ?_
  refine va_get (D := gD g) (ci := 11) (C := RX11) (T := TX11) (N := 50) (v := .ref (gad g 13)) hx hb hts (fun w h => List.mem_cons_of_mem _ (isX110 w h)) hown hK hI.1 0 rfl rfl 23 (by decide) (hts _ (List.mem_cons_of_mem _ mw197)) (fun _ h9 => h9) rfl dX11_statusA_4 ?_
  refine lv_iconst (v := (1 : Int32)) hx hb dX11_statusA_7 (by decide) ?_
  refine va_iald (f := (gA st 12)) hx hb hK hI.1 13 12 rfl rfl (by unfold vp_in; decide) dX11_statusA_8 ?_
  refine lv_bipush (v := (6 : Int32)) hx hb dX11_statusA_9 (by decide) ?_
  refine lv_ishl hx hb dX11_statusA_11 ?_
  refine lv_ior hx hb dX11_statusA_12 ?_
  refine lv_aload_n hx hb dX11_statusA_13 rfl (lv_at hl 0 rfl) ?_
  refine va_get (D := gD g) (ci := 11) (C := RX11) (T := TX11) (N := 50) (v := .ref (gad g 13)) hx hb hts (fun w h => List.mem_cons_of_mem _ (isX110 w h)) hown hK hI.1 0 rfl rfl 23 (by decide) (hts _ (List.mem_cons_of_mem _ mw197)) (fun _ h9 => h9) rfl dX11_statusA_14 ?_
  refine lv_iconst (v := (0 : Int32)) hx hb dX11_statusA_17 (by decide) ?_
  refine va_iald (f := (gA st 12)) hx hb hK hI.1 13 12 rfl rfl (by unfold vp_in; decide) dX11_statusA_18 ?_
  refine lv_iconst (v := (5 : Int32)) hx hb dX11_statusA_19 (by decide) ?_
  refine lv_ishl hx hb dX11_statusA_20 ?_
  refine lv_ior hx hb dX11_statusA_21 ?_
  refine lv_aload_n hx hb dX11_statusA_22 rfl (lv_at hl 0 rfl) ?_
  refine va_get (D := gD g) (ci := 11) (C := RX11) (T := TX11) (N := 50) (v := .int (gI st 9)) hx hb hts (fun w h => List.mem_cons_of_mem _ (isX110 w h)) hown hK hI.1 0 rfl rfl 22 (by decide) (hts _ (List.mem_cons_of_mem _ mw216)) (fun _ h9 => h9) rfl dX11_statusA_23 ?_
  refine lv_iconst (v := (3 : Int32)) hx hb dX11_statusA_26 (by decide) ?_
  refine lv_ishl hx hb dX11_statusA_27 ?_
  refine lv_ior hx hb dX11_statusA_28 ?_
  exact cx_iret C hI rfl hF dX11_statusA_29
set_option maxHeartbeats 4000000 in
set_option maxRecDepth 100000 in
theorem c_m_statusA (l : Launch) (g : Gm) (st : CS) : Mi l yX11_statusA wq_X11_statusA rm_m_statusA (gD g) vwCl (mty g) (mw g) (mz g) [.ref (gad g 0)] st st (m_statusA st) := by
  intro sz
  refine Met.ofW (cc := cX11_statusA) (maxL := 1) (ret := (some .int)) (by decide) rfl ?_
  intro p e s m args below meth c s₁ B hml hv
  obtain ⟨rfl, hsz, hP, hK, hD0, hZ⟩ := hv
  subst hsz
  have hl := lv_entry ([.ref (gad g 0)]) (n := 1) (Nat.le_of_ble_eq_true rfl)
  rw [lg_entry_eq]
  generalize (lg_sl ([.ref (gad g 0)]) ++ List.replicate (1 - (lg_sl ([.ref (gad g 0)])).length) Slot.unset).toArray = ls at hl ⊢
  exact k_m_statusA g ⟨B.exec, B.bytes, B.returns, hml, findClass_of_methodNamed B.named, atoms_spec (ws := wq_X11_statusA) B.pre, B.notSynchronized, hK, fun q h => Or.inr h, hZ, mz_ok g⟩ st  _ _ ls ⟨hP, hD0.self, va_S.rf⟩ hl _ rfl
abbrev wq_X11_statusB : List Cond := .code yX11_statusB cX11_statusB 1 (some .int) :: wAll
theorem yd_yX11_statusB : yX11_statusB.cls = RX11 ∧ yX11_statusB.cls ≠ "java/lang/invoke/MethodHandle" ∧ yX11_statusB.cls ≠ "java/lang/invoke/VarHandle" ∧ (parseMethodDescriptor yX11_statusB.desc).map (fun d => d.parameters.length) = some 0 := by decide +kernel
abbrev rm_m_statusB : Room := { frames := 0, cells := 0, slots := 0, locals := 0 }
def m_statusB_b26 (st : CS) (y1 : Int32) (y0 : Int32) : Int32 := (if ((gI st 14) = 0) then ((y1 ||| y0) ||| (0 : Int32)) else ((y1 ||| y0) ||| (128 : Int32)))
set_option maxHeartbeats 4000000 in
set_option maxRecDepth 100000 in
theorem k_m_statusB_b26 {p : Program} {l : Launch} {e : Env} {s : State} {m : MethodId} {args : Array Value} {below : List Frame} {meth : Method} {c : Code} {A : Nat → Prop} (g : Gm) (C : cX p s m args meth c A cX11_statusB (some .int) 1 RX11 wq_X11_statusB (gD g) vwCl (mty g) (mz g)) (st : CS) (y1 : Int32) (y0 : Int32) (H : Heap) (locs : List Loc) (ls : Array Slot) (hI : cI (gD g) vwCl (mw g) A s st H locs) (hl : lv_has ls 1 [(0, .ref (gad g 0))]) (X : Int32) (hF : X = m_statusB_b26 st y1 y0) : W p l e rm_m_statusB s m args below meth c H locs 0 0 (MQ below (cQi (gD g) vwCl (mty g) (mw g) A st X) args s 0 0 A) (F0 m 26 ls [.int y0, .int y1]) := by
  obtain ⟨hx, hb, hr, hml, hown, hts, hlocks, hK, hA, hZ, hzo⟩ := id C
  unfold m_statusB_b26 at hF
  refine lv_ior hx hb dX11_statusB_26 ?_
  refine lv_aload_n hx hb dX11_statusB_27 rfl (lv_at hl 0 rfl) ?_
  refine va_get (D := gD g) (ci := 11) (C := RX11) (T := TX11) (N := 50) (v := .int (gI st 14)) hx hb hts (fun w h => List.mem_cons_of_mem _ (isX110 w h)) hown hK hI.1 0 rfl rfl 31 (by decide) (hts _ (List.mem_cons_of_mem _ mw221)) (fun _ h9 => h9) rfl dX11_statusB_28 ?_
  refine lv_if_eq (tgt := 40) hx hb dX11_statusB_31 (by decide) (fun c_31 => ?_) (fun c_31 => ?_)
  · have hF := hF.trans (if_pos c_31)
    refine lv_iconst (v := (0 : Int32)) hx hb dX11_statusB_40 (by decide) ?_
    refine lv_ior hx hb dX11_statusB_41 ?_
    exact cx_iret C hI rfl hF dX11_statusB_42
  · have hF := hF.trans (if_neg c_31)
    refine lv_sipush (v := (128 : Int32)) hx hb dX11_statusB_34 (by decide) ?_
    refine lv_goto (tgt := 41) hx hb dX11_statusB_37 (by decide) ?_
    refine lv_ior hx hb dX11_statusB_41 ?_
    exact cx_iret C hI rfl hF dX11_statusB_42
def m_statusB_b13 (st : CS) (y0 : Int32) : Int32 := (if ((gI st 15) = 0) then (m_statusB_b26 st y0 (64 : Int32)) else (m_statusB_b26 st y0 (0 : Int32)))
set_option maxHeartbeats 4000000 in
set_option maxRecDepth 100000 in
theorem k_m_statusB_b13 {p : Program} {l : Launch} {e : Env} {s : State} {m : MethodId} {args : Array Value} {below : List Frame} {meth : Method} {c : Code} {A : Nat → Prop} (g : Gm) (C : cX p s m args meth c A cX11_statusB (some .int) 1 RX11 wq_X11_statusB (gD g) vwCl (mty g) (mz g)) (st : CS) (y0 : Int32) (H : Heap) (locs : List Loc) (ls : Array Slot) (hI : cI (gD g) vwCl (mw g) A s st H locs) (hl : lv_has ls 1 [(0, .ref (gad g 0))]) (X : Int32) (hF : X = m_statusB_b13 st y0) : W p l e rm_m_statusB s m args below meth c H locs 0 0 (MQ below (cQi (gD g) vwCl (mty g) (mw g) A st X) args s 0 0 A) (F0 m 13 ls [.int y0]) := by
  obtain ⟨hx, hb, hr, hml, hown, hts, hlocks, hK, hA, hZ, hzo⟩ := id C
  unfold m_statusB_b13 at hF
  refine lv_aload_n hx hb dX11_statusB_13 rfl (lv_at hl 0 rfl) ?_
  refine va_get (D := gD g) (ci := 11) (C := RX11) (T := TX11) (N := 50) (v := .int (gI st 15)) hx hb hts (fun w h => List.mem_cons_of_mem _ (isX110 w h)) hown hK hI.1 0 rfl rfl 32 (by decide) (hts _ (List.mem_cons_of_mem _ mw222)) (fun _ h9 => h9) rfl dX11_statusB_14 ?_
  refine lv_if_ne (tgt := 25) hx hb dX11_statusB_17 (by decide) (fun c_17 => ?_) (fun c_17 => ?_)
  · have hF := hF.trans (if_neg c_17)
    refine lv_iconst (v := (0 : Int32)) hx hb dX11_statusB_25 (by decide) ?_
    exact k_m_statusB_b26 g C st y0 (0 : Int32) H locs ls hI (lv_sub hl [0] rfl) X hF
  · have hF := hF.trans (if_pos c_17)
    refine lv_bipush (v := (64 : Int32)) hx hb dX11_statusB_20 (by decide) ?_
    refine lv_goto (tgt := 26) hx hb dX11_statusB_22 (by decide) ?_
    exact k_m_statusB_b26 g C st y0 (64 : Int32) H locs ls hI (lv_sub hl [0] rfl) X hF
def m_statusB (st : CS) : Int32 := (if ((gI st 23) = 0) then (m_statusB_b13 st (0 : Int32)) else (m_statusB_b13 st (8 : Int32)))
set_option maxHeartbeats 4000000 in
set_option maxRecDepth 100000 in
theorem k_m_statusB {p : Program} {l : Launch} {e : Env} {s : State} {m : MethodId} {args : Array Value} {below : List Frame} {meth : Method} {c : Code} {A : Nat → Prop} (g : Gm) (C : cX p s m args meth c A cX11_statusB (some .int) 1 RX11 wq_X11_statusB (gD g) vwCl (mty g) (mz g)) (st : CS) (H : Heap) (locs : List Loc) (ls : Array Slot) (hI : cI (gD g) vwCl (mw g) A s st H locs) (hl : lv_has ls 1 [(0, .ref (gad g 0))]) (X : Int32) (hF : X = m_statusB st) : W p l e rm_m_statusB s m args below meth c H locs 0 0 (MQ below (cQi (gD g) vwCl (mty g) (mw g) A st X) args s 0 0 A) (F0 m 0 ls []) := by
  obtain ⟨hx, hb, hr, hml, hown, hts, hlocks, hK, hA, hZ, hzo⟩ := id C
  unfold m_statusB at hF
  refine lv_aload_n hx hb dX11_statusB_0 rfl (lv_at hl 0 rfl) ?_
  refine va_get (D := gD g) (ci := 11) (C := RX11) (T := TX11) (N := 50) (v := .int (gI st 23)) hx hb hts (fun w h => List.mem_cons_of_mem _ (isX110 w h)) hown hK hI.1 0 rfl rfl 40 (by decide) (hts _ (List.mem_cons_of_mem _ mw228)) (fun _ h9 => h9) rfl dX11_statusB_1 ?_
  refine lv_if_eq (tgt := 12) hx hb dX11_statusB_4 (by decide) (fun c_4 => ?_) (fun c_4 => ?_)
  · have hF := hF.trans (if_pos c_4)
    refine lv_iconst (v := (0 : Int32)) hx hb dX11_statusB_12 (by decide) ?_
    exact k_m_statusB_b13 g C st (0 : Int32) H locs ls hI (lv_sub hl [0] rfl) X hF
  · have hF := hF.trans (if_neg c_4)
    refine lv_bipush (v := (8 : Int32)) hx hb dX11_statusB_7 (by decide) ?_
    refine lv_goto (tgt := 13) hx hb dX11_statusB_9 (by decide) ?_
    exact k_m_statusB_b13 g C st (8 : Int32) H locs ls hI (lv_sub hl [0] rfl) X hF
set_option maxHeartbeats 4000000 in
set_option maxRecDepth 100000 in
theorem c_m_statusB (l : Launch) (g : Gm) (st : CS) : Mi l yX11_statusB wq_X11_statusB rm_m_statusB (gD g) vwCl (mty g) (mw g) (mz g) [.ref (gad g 0)] st st (m_statusB st) := by
  intro sz
  refine Met.ofW (cc := cX11_statusB) (maxL := 1) (ret := (some .int)) (by decide) rfl ?_
  intro p e s m args below meth c s₁ B hml hv
  obtain ⟨rfl, hsz, hP, hK, hD0, hZ⟩ := hv
  subst hsz
  have hl := lv_entry ([.ref (gad g 0)]) (n := 1) (Nat.le_of_ble_eq_true rfl)
  rw [lg_entry_eq]
  generalize (lg_sl ([.ref (gad g 0)]) ++ List.replicate (1 - (lg_sl ([.ref (gad g 0)])).length) Slot.unset).toArray = ls at hl ⊢
  exact k_m_statusB g ⟨B.exec, B.bytes, B.returns, hml, findClass_of_methodNamed B.named, atoms_spec (ws := wq_X11_statusB) B.pre, B.notSynchronized, hK, fun q h => Or.inr h, hZ, mz_ok g⟩ st  _ _ ls ⟨hP, hD0.self, va_S.rf⟩ hl _ rfl
abbrev wq_X11_statusF : List Cond := .code yX11_statusF cX11_statusF 1 (some .int) :: wAll
theorem yd_yX11_statusF : yX11_statusF.cls = RX11 ∧ yX11_statusF.cls ≠ "java/lang/invoke/MethodHandle" ∧ yX11_statusF.cls ≠ "java/lang/invoke/VarHandle" ∧ (parseMethodDescriptor yX11_statusF.desc).map (fun d => d.parameters.length) = some 0 := by decide +kernel
abbrev rm_m_statusF : Room := { frames := 0, cells := 0, slots := 0, locals := 0 }
def m_statusF (st : CS) : Int32 := (if ((gI st 23) = 0) then ((128 : Int32) ||| (0 : Int32)) else ((128 : Int32) ||| (1 : Int32)))
set_option maxHeartbeats 4000000 in
set_option maxRecDepth 100000 in
theorem k_m_statusF {p : Program} {l : Launch} {e : Env} {s : State} {m : MethodId} {args : Array Value} {below : List Frame} {meth : Method} {c : Code} {A : Nat → Prop} (g : Gm) (C : cX p s m args meth c A cX11_statusF (some .int) 1 RX11 wq_X11_statusF (gD g) vwCl (mty g) (mz g)) (st : CS) (H : Heap) (locs : List Loc) (ls : Array Slot) (hI : cI (gD g) vwCl (mw g) A s st H locs) (hl : lv_has ls 1 [(0, .ref (gad g 0))]) (X : Int32) (hF : X = m_statusF st) : W p l e rm_m_statusF s m args below meth c H locs 0 0 (MQ below (cQi (gD g) vwCl (mty g) (mw g) A st X) args s 0 0 A) (F0 m 0 ls []) := by
  obtain ⟨hx, hb, hr, hml, hown, hts, hlocks, hK, hA, hZ, hzo⟩ := id C
  unfold m_statusF at hF
  refine lv_sipush (v := (128 : Int32)) hx hb dX11_statusF_0 (by decide) ?_
  refine lv_aload_n hx hb dX11_statusF_3 rfl (lv_at hl 0 rfl) ?_
  refine va_get (D := gD g) (ci := 11) (C := RX11) (T := TX11) (N := 50) (v := .int (gI st 23)) hx hb hts (fun w h => List.mem_cons_of_mem _ (isX110 w h)) hown hK hI.1 0 rfl rfl 40 (by decide) (hts _ (List.mem_cons_of_mem _ mw228)) (fun _ h9 => h9) rfl dX11_statusF_4 ?_
  refine lv_if_eq (tgt := 14) hx hb dX11_statusF_7 (by decide) (fun c_7 => ?_) (fun c_7 => ?_)
  · have hF := hF.trans (if_pos c_7)
    refine lv_iconst (v := (0 : Int32)) hx hb dX11_statusF_14 (by decide) ?_
    refine lv_ior hx hb dX11_statusF_15 ?_
    exact cx_iret C hI rfl hF dX11_statusF_16
  · have hF := hF.trans (if_neg c_7)
    refine lv_iconst (v := (1 : Int32)) hx hb dX11_statusF_10 (by decide) ?_
    refine lv_goto (tgt := 15) hx hb dX11_statusF_11 (by decide) ?_
    refine lv_ior hx hb dX11_statusF_15 ?_
    exact cx_iret C hI rfl hF dX11_statusF_16
set_option maxHeartbeats 4000000 in
set_option maxRecDepth 100000 in
theorem c_m_statusF (l : Launch) (g : Gm) (st : CS) : Mi l yX11_statusF wq_X11_statusF rm_m_statusF (gD g) vwCl (mty g) (mw g) (mz g) [.ref (gad g 0)] st st (m_statusF st) := by
  intro sz
  refine Met.ofW (cc := cX11_statusF) (maxL := 1) (ret := (some .int)) (by decide) rfl ?_
  intro p e s m args below meth c s₁ B hml hv
  obtain ⟨rfl, hsz, hP, hK, hD0, hZ⟩ := hv
  subst hsz
  have hl := lv_entry ([.ref (gad g 0)]) (n := 1) (Nat.le_of_ble_eq_true rfl)
  rw [lg_entry_eq]
  generalize (lg_sl ([.ref (gad g 0)]) ++ List.replicate (1 - (lg_sl ([.ref (gad g 0)])).length) Slot.unset).toArray = ls at hl ⊢
  exact k_m_statusF g ⟨B.exec, B.bytes, B.returns, hml, findClass_of_methodNamed B.named, atoms_spec (ws := wq_X11_statusF) B.pre, B.notSynchronized, hK, fun q h => Or.inr h, hZ, mz_ok g⟩ st  _ _ ls ⟨hP, hD0.self, va_S.rf⟩ hl _ rfl
abbrev wq_X11_value : List Cond := .code yX11_value cX11_value 4 (some .int) :: wAll
theorem yd_yX11_value : yX11_value.cls = RX11 ∧ yX11_value.cls ≠ "java/lang/invoke/MethodHandle" ∧ yX11_value.cls ≠ "java/lang/invoke/VarHandle" ∧ (parseMethodDescriptor yX11_value.desc).map (fun d => d.parameters.length) = some 1 := by decide +kernel
abbrev rm_m_value : Room := { frames := 1, cells := 0, slots := 0, locals := 22 }
def m_value (st : CS) (x1 : Int32) : Int32 := (if (x1 = (16384 : Int32)) then (gI st 16) else (if (x1 = (16385 : Int32)) then (gI st 17) else (if (x1 = (16386 : Int32)) then (if ((gI st 18) ≤ 0) then (if ((gI st 22) = 0) then (0 : Int32) else (2 : Int32)) else (1 : Int32)) else (if ((m_within (x1 - (524288 : Int32)) (16 : Int32) (23 : Int32)) = 0) then (if (x1 - (524288 : Int32)) = (1 : Int32) then (gI st 13) else (if (x1 - (524288 : Int32)) = (4 : Int32) then (m_statusA st) else (if (x1 - (524288 : Int32)) = (5 : Int32) then ((m_statusA st) &&& (gI st 10)) else (if (x1 - (524288 : Int32)) = (6 : Int32) then (gI st 10) else (if (x1 - (524288 : Int32)) = (8 : Int32) then (m_statusB st) else (if (x1 - (524288 : Int32)) = (9 : Int32) then ((m_statusB st) &&& (gI st 11)) else (if (x1 - (524288 : Int32)) = (10 : Int32) then (gI st 11) else (if (x1 - (524288 : Int32)) = (12 : Int32) then (m_statusF st) else (if (x1 - (524288 : Int32)) = (13 : Int32) then ((m_statusF st) &&& (gI st 12)) else (if (x1 - (524288 : Int32)) = (14 : Int32) then (gI st 12) else (0 : Int32))))))))))) else (if (((x1 - (524288 : Int32)) &&& (3 : Int32)) = 0) then (((gA st 15) (((x1 - (524288 : Int32)) - (16 : Int32)) >>> ((2 : Int32) &&& 31)).toNatClampNeg) &&& (255 : Int32)) else (if (((x1 - (524288 : Int32)) &&& (3 : Int32)) = (1 : Int32)) then (((gA st 15) (((x1 - (524288 : Int32)) - (16 : Int32)) >>> ((2 : Int32) &&& 31)).toNatClampNeg) >>> ((8 : Int32) &&& 31)) else (0 : Int32)))))))
def o_m_value (st : CS) (x1 : Int32) : Prop := (((x1 = (16384 : Int32)) → True) ∧ (¬ (x1 = (16384 : Int32)) → (((x1 = (16385 : Int32)) → True) ∧ (¬ (x1 = (16385 : Int32)) → (((x1 = (16386 : Int32)) → True) ∧ (¬ (x1 = (16386 : Int32)) → ((((m_within (x1 - (524288 : Int32)) (16 : Int32) (23 : Int32)) = 0) → True) ∧ (¬ ((m_within (x1 - (524288 : Int32)) (16 : Int32) (23 : Int32)) = 0) → (((((x1 - (524288 : Int32)) &&& (3 : Int32)) = 0) → (vp_in (((x1 - (524288 : Int32)) - (16 : Int32)) >>> ((2 : Int32) &&& 31)) 2 ∧ True)) ∧ (¬ (((x1 - (524288 : Int32)) &&& (3 : Int32)) = 0) → (((((x1 - (524288 : Int32)) &&& (3 : Int32)) = (1 : Int32)) → (vp_in (((x1 - (524288 : Int32)) - (16 : Int32)) >>> ((2 : Int32) &&& 31)) 2 ∧ True)) ∧ (¬ (((x1 - (524288 : Int32)) &&& (3 : Int32)) = (1 : Int32)) → True))))))))))))
set_option maxHeartbeats 4000000 in
set_option maxRecDepth 100000 in
theorem k_m_value {p : Program} {l : Launch} {e : Env} {s : State} {m : MethodId} {args : Array Value} {below : List Frame} {meth : Method} {c : Code} {A : Nat → Prop} (g : Gm) (C : cX p s m args meth c A cX11_value (some .int) 4 RX11 wq_X11_value (gD g) vwCl (mty g) (mz g)) (st : CS) (x1 : Int32) (H : Heap) (locs : List Loc) (ls : Array Slot) (hI : cI (gD g) vwCl (mw g) A s st H locs) (hl : lv_has ls 4 [(0, .ref (gad g 0)), (1, .int x1)]) (hO : o_m_value st x1) (X : Int32) (hF : X = m_value st x1) : W p l e rm_m_value s m args below meth c H locs 0 0 (MQ below (cQi (gD g) vwCl (mty g) (mw g) A st X) args s 0 0 A) (F0 m 0 ls []) := by
  obtain ⟨hx, hb, hr, hml, hown, hts, hlocks, hK, hA, hZ, hzo⟩ := id C
  unfold m_value at hF
  unfold o_m_value at hO
  refine lv_iload_n hx hb dX11_value_0 rfl (lv_at hl 1 rfl) ?_
  refine lv_sipush (v := (16384 : Int32)) hx hb dX11_value_1 (by decide) ?_
  refine lv_icmp_ne (tgt := 12) hx hb dX11_value_4 (by decide) (fun c_4 => ?_) (fun c_4 => ?_)
  · have hF := hF.trans (if_neg c_4)
    have hO := hO.2 c_4
    refine lv_iload_n hx hb dX11_value_12 rfl (lv_at hl 1 rfl) ?_
    refine lv_sipush (v := (16385 : Int32)) hx hb dX11_value_13 (by decide) ?_
    refine lv_icmp_ne (tgt := 24) hx hb dX11_value_16 (by decide) (fun c_16 => ?_) (fun c_16 => ?_)
    · have hF := hF.trans (if_neg c_16)
      have hO := hO.2 c_16
      refine lv_iload_n hx hb dX11_value_24 rfl (lv_at hl 1 rfl) ?_
      refine lv_sipush (v := (16386 : Int32)) hx hb dX11_value_25 (by decide) ?_
      refine lv_icmp_ne (tgt := 55) hx hb dX11_value_28 (by decide) (fun c_28 => ?_) (fun c_28 => ?_)
      · have hF := hF.trans (if_neg c_28)
        have hO := hO.2 c_28
        refine lv_iload_n hx hb dX11_value_55 rfl (lv_at hl 1 rfl) ?_
        refine lv_ldc (v := (524288 : Int32)) hx hb hown (hts _ (List.mem_cons_of_mem _ mw888)) dX11_value_56 ?_
        refine lv_isub hx hb dX11_value_58 ?_
        refine lv_istore_n (lv' := [(2, .int (x1 - (524288 : Int32))), (0, .ref (gad g 0)), (1, .int x1)]) hx hb dX11_value_59 rfl hl (by decide) rfl (fun ls hl => ?_)
        refine lv_iload_n hx hb dX11_value_60 rfl (lv_at hl 0 rfl) ?_
        refine lv_bipush (v := (16 : Int32)) hx hb dX11_value_61 (by decide) ?_
        refine lv_bipush (v := (23 : Int32)) hx hb dX11_value_63 (by decide) ?_
        refine cx_Si (As := [.int (x1 - (524288 : Int32)), .int (16 : Int32), .int (23 : Int32)]) (rest := []) C (c_m_within l g st (x1 - (524288 : Int32)) (16 : Int32) (23 : Int32)) (va_cwS 3 hts (gd_S _ mw238 mw239 mw3 mw240) rfl rfl rfl yd_yX11_within ⟨Nat.le_of_ble_eq_true rfl, Nat.le_of_ble_eq_true rfl⟩) hI rfl hl.1 rfl (Nat.le_of_ble_eq_true rfl) dX11_value_65 (fun H locs hI => ?_)
        refine lv_if_eq (tgt := 118) hx hb dX11_value_68 (by decide) (fun c_68 => ?_) (fun c_68 => ?_)
        · have hF := hF.trans (if_pos c_68)
          have hO := hO.1 c_68
          refine lv_iload_n hx hb dX11_value_118 rfl (lv_at hl 0 rfl) ?_
          by_cases c_119_0 : (x1 - (524288 : Int32)) = (1 : Int32)
          · have hF := hF.trans (if_pos c_119_0)
            refine lv_tableIn (off := 69) (tgt := 188) hx hb dX11_value_119 (by rw [c_119_0]; decide) (by rw [c_119_0]; decide) (by rw [c_119_0]; rfl) (by decide) ?_
            refine lv_aload_n hx hb dX11_value_188 rfl (lv_at hl 1 rfl) ?_
            refine va_get (D := gD g) (ci := 11) (C := RX11) (T := TX11) (N := 50) (v := .int (gI st 13)) hx hb hts (fun w h => List.mem_cons_of_mem _ (isX110 w h)) hown hK hI.1 0 rfl rfl 30 (by decide) (hts _ (List.mem_cons_of_mem _ mw220)) (fun _ h9 => h9) rfl dX11_value_189 ?_
            exact cx_iret C hI rfl hF dX11_value_192
          · have hF := hF.trans (if_neg c_119_0)
            by_cases c_119_1 : (x1 - (524288 : Int32)) = (4 : Int32)
            · have hF := hF.trans (if_pos c_119_1)
              refine lv_tableIn (off := 74) (tgt := 193) hx hb dX11_value_119 (by rw [c_119_1]; decide) (by rw [c_119_1]; decide) (by rw [c_119_1]; rfl) (by decide) ?_
              refine lv_aload_n hx hb dX11_value_193 rfl (lv_at hl 1 rfl) ?_
              refine cx_Vi (As := []) (rest := []) C (c_m_statusA l g st ) (cwV 0 hts (gd_V _ mw788 mw789 mw790 mw3 mw791) rfl rfl rfl yd_yX11_statusA ⟨Nat.le_of_ble_eq_true rfl, Nat.le_of_ble_eq_true rfl⟩) (va_recv hK hI.1 (ci := 11) (q0 := 0) rfl rfl) hI rfl hl.1 rfl (Nat.le_of_ble_eq_true rfl) dX11_value_194 (fun H locs hI => ?_)
              exact cx_iret C hI rfl hF dX11_value_197
            · have hF := hF.trans (if_neg c_119_1)
              by_cases c_119_2 : (x1 - (524288 : Int32)) = (5 : Int32)
              · have hF := hF.trans (if_pos c_119_2)
                refine lv_tableIn (off := 79) (tgt := 198) hx hb dX11_value_119 (by rw [c_119_2]; decide) (by rw [c_119_2]; decide) (by rw [c_119_2]; rfl) (by decide) ?_
                refine lv_aload_n hx hb dX11_value_198 rfl (lv_at hl 1 rfl) ?_
                refine cx_Vi (As := []) (rest := []) C (c_m_statusA l g st ) (cwV 0 hts (gd_V _ mw788 mw789 mw790 mw3 mw791) rfl rfl rfl yd_yX11_statusA ⟨Nat.le_of_ble_eq_true rfl, Nat.le_of_ble_eq_true rfl⟩) (va_recv hK hI.1 (ci := 11) (q0 := 0) rfl rfl) hI rfl hl.1 rfl (Nat.le_of_ble_eq_true rfl) dX11_value_199 (fun H locs hI => ?_)
                refine lv_aload_n hx hb dX11_value_202 rfl (lv_at hl 1 rfl) ?_
                refine va_get (D := gD g) (ci := 11) (C := RX11) (T := TX11) (N := 50) (v := .int (gI st 10)) hx hb hts (fun w h => List.mem_cons_of_mem _ (isX110 w h)) hown hK hI.1 0 rfl rfl 27 (by decide) (hts _ (List.mem_cons_of_mem _ mw217)) (fun _ h9 => h9) rfl dX11_value_203 ?_
                refine lv_iand hx hb dX11_value_206 ?_
                exact cx_iret C hI rfl hF dX11_value_207
              · have hF := hF.trans (if_neg c_119_2)
                by_cases c_119_3 : (x1 - (524288 : Int32)) = (6 : Int32)
                · have hF := hF.trans (if_pos c_119_3)
                  refine lv_tableIn (off := 89) (tgt := 208) hx hb dX11_value_119 (by rw [c_119_3]; decide) (by rw [c_119_3]; decide) (by rw [c_119_3]; rfl) (by decide) ?_
                  refine lv_aload_n hx hb dX11_value_208 rfl (lv_at hl 1 rfl) ?_
                  refine va_get (D := gD g) (ci := 11) (C := RX11) (T := TX11) (N := 50) (v := .int (gI st 10)) hx hb hts (fun w h => List.mem_cons_of_mem _ (isX110 w h)) hown hK hI.1 0 rfl rfl 27 (by decide) (hts _ (List.mem_cons_of_mem _ mw217)) (fun _ h9 => h9) rfl dX11_value_209 ?_
                  exact cx_iret C hI rfl hF dX11_value_212
                · have hF := hF.trans (if_neg c_119_3)
                  by_cases c_119_4 : (x1 - (524288 : Int32)) = (8 : Int32)
                  · have hF := hF.trans (if_pos c_119_4)
                    refine lv_tableIn (off := 94) (tgt := 213) hx hb dX11_value_119 (by rw [c_119_4]; decide) (by rw [c_119_4]; decide) (by rw [c_119_4]; rfl) (by decide) ?_
                    refine lv_aload_n hx hb dX11_value_213 rfl (lv_at hl 1 rfl) ?_
                    refine cx_Vi (As := []) (rest := []) C (c_m_statusB l g st ) (cwV 0 hts (gd_V _ mw792 mw793 mw794 mw3 mw795) rfl rfl rfl yd_yX11_statusB ⟨Nat.le_of_ble_eq_true rfl, Nat.le_of_ble_eq_true rfl⟩) (va_recv hK hI.1 (ci := 11) (q0 := 0) rfl rfl) hI rfl hl.1 rfl (Nat.le_of_ble_eq_true rfl) dX11_value_214 (fun H locs hI => ?_)
                    exact cx_iret C hI rfl hF dX11_value_217
                  · have hF := hF.trans (if_neg c_119_4)
                    by_cases c_119_5 : (x1 - (524288 : Int32)) = (9 : Int32)
                    · have hF := hF.trans (if_pos c_119_5)
                      refine lv_tableIn (off := 99) (tgt := 218) hx hb dX11_value_119 (by rw [c_119_5]; decide) (by rw [c_119_5]; decide) (by rw [c_119_5]; rfl) (by decide) ?_
                      refine lv_aload_n hx hb dX11_value_218 rfl (lv_at hl 1 rfl) ?_
                      refine cx_Vi (As := []) (rest := []) C (c_m_statusB l g st ) (cwV 0 hts (gd_V _ mw792 mw793 mw794 mw3 mw795) rfl rfl rfl yd_yX11_statusB ⟨Nat.le_of_ble_eq_true rfl, Nat.le_of_ble_eq_true rfl⟩) (va_recv hK hI.1 (ci := 11) (q0 := 0) rfl rfl) hI rfl hl.1 rfl (Nat.le_of_ble_eq_true rfl) dX11_value_219 (fun H locs hI => ?_)
                      refine lv_aload_n hx hb dX11_value_222 rfl (lv_at hl 1 rfl) ?_
                      refine va_get (D := gD g) (ci := 11) (C := RX11) (T := TX11) (N := 50) (v := .int (gI st 11)) hx hb hts (fun w h => List.mem_cons_of_mem _ (isX110 w h)) hown hK hI.1 0 rfl rfl 28 (by decide) (hts _ (List.mem_cons_of_mem _ mw218)) (fun _ h9 => h9) rfl dX11_value_223 ?_
                      refine lv_iand hx hb dX11_value_226 ?_
                      exact cx_iret C hI rfl hF dX11_value_227
                    · have hF := hF.trans (if_neg c_119_5)
                      by_cases c_119_6 : (x1 - (524288 : Int32)) = (10 : Int32)
                      · have hF := hF.trans (if_pos c_119_6)
                        refine lv_tableIn (off := 109) (tgt := 228) hx hb dX11_value_119 (by rw [c_119_6]; decide) (by rw [c_119_6]; decide) (by rw [c_119_6]; rfl) (by decide) ?_
                        refine lv_aload_n hx hb dX11_value_228 rfl (lv_at hl 1 rfl) ?_
                        refine va_get (D := gD g) (ci := 11) (C := RX11) (T := TX11) (N := 50) (v := .int (gI st 11)) hx hb hts (fun w h => List.mem_cons_of_mem _ (isX110 w h)) hown hK hI.1 0 rfl rfl 28 (by decide) (hts _ (List.mem_cons_of_mem _ mw218)) (fun _ h9 => h9) rfl dX11_value_229 ?_
                        exact cx_iret C hI rfl hF dX11_value_232
                      · have hF := hF.trans (if_neg c_119_6)
                        by_cases c_119_7 : (x1 - (524288 : Int32)) = (12 : Int32)
                        · have hF := hF.trans (if_pos c_119_7)
                          refine lv_tableIn (off := 114) (tgt := 233) hx hb dX11_value_119 (by rw [c_119_7]; decide) (by rw [c_119_7]; decide) (by rw [c_119_7]; rfl) (by decide) ?_
                          refine lv_aload_n hx hb dX11_value_233 rfl (lv_at hl 1 rfl) ?_
                          refine cx_Vi (As := []) (rest := []) C (c_m_statusF l g st ) (cwV 0 hts (gd_V _ mw757 mw758 mw759 mw3 mw760) rfl rfl rfl yd_yX11_statusF ⟨Nat.le_of_ble_eq_true rfl, Nat.le_of_ble_eq_true rfl⟩) (va_recv hK hI.1 (ci := 11) (q0 := 0) rfl rfl) hI rfl hl.1 rfl (Nat.le_of_ble_eq_true rfl) dX11_value_234 (fun H locs hI => ?_)
                          exact cx_iret C hI rfl hF dX11_value_237
                        · have hF := hF.trans (if_neg c_119_7)
                          by_cases c_119_8 : (x1 - (524288 : Int32)) = (13 : Int32)
                          · have hF := hF.trans (if_pos c_119_8)
                            refine lv_tableIn (off := 119) (tgt := 238) hx hb dX11_value_119 (by rw [c_119_8]; decide) (by rw [c_119_8]; decide) (by rw [c_119_8]; rfl) (by decide) ?_
                            refine lv_aload_n hx hb dX11_value_238 rfl (lv_at hl 1 rfl) ?_
                            refine cx_Vi (As := []) (rest := []) C (c_m_statusF l g st ) (cwV 0 hts (gd_V _ mw757 mw758 mw759 mw3 mw760) rfl rfl rfl yd_yX11_statusF ⟨Nat.le_of_ble_eq_true rfl, Nat.le_of_ble_eq_true rfl⟩) (va_recv hK hI.1 (ci := 11) (q0 := 0) rfl rfl) hI rfl hl.1 rfl (Nat.le_of_ble_eq_true rfl) dX11_value_239 (fun H locs hI => ?_)
                            refine lv_aload_n hx hb dX11_value_242 rfl (lv_at hl 1 rfl) ?_
                            refine va_get (D := gD g) (ci := 11) (C := RX11) (T := TX11) (N := 50) (v := .int (gI st 12)) hx hb hts (fun w h => List.mem_cons_of_mem _ (isX110 w h)) hown hK hI.1 0 rfl rfl 29 (by decide) (hts _ (List.mem_cons_of_mem _ mw219)) (fun _ h9 => h9) rfl dX11_value_243 ?_
                            refine lv_iand hx hb dX11_value_246 ?_
                            exact cx_iret C hI rfl hF dX11_value_247
                          · have hF := hF.trans (if_neg c_119_8)
                            by_cases c_119_9 : (x1 - (524288 : Int32)) = (14 : Int32)
                            · have hF := hF.trans (if_pos c_119_9)
                              refine lv_tableIn (off := 129) (tgt := 248) hx hb dX11_value_119 (by rw [c_119_9]; decide) (by rw [c_119_9]; decide) (by rw [c_119_9]; rfl) (by decide) ?_
                              refine lv_aload_n hx hb dX11_value_248 rfl (lv_at hl 1 rfl) ?_
                              refine va_get (D := gD g) (ci := 11) (C := RX11) (T := TX11) (N := 50) (v := .int (gI st 12)) hx hb hts (fun w h => List.mem_cons_of_mem _ (isX110 w h)) hown hK hI.1 0 rfl rfl 29 (by decide) (hts _ (List.mem_cons_of_mem _ mw219)) (fun _ h9 => h9) rfl dX11_value_249 ?_
                              exact cx_iret C hI rfl hF dX11_value_252
                            · have hF := hF.trans (if_neg c_119_9)
                              by_cases cg_119_2 : (x1 - (524288 : Int32)) = (2 : Int32)
                              · refine lv_tableIn (off := 134) (tgt := 253) hx hb dX11_value_119 (by rw [cg_119_2]; decide) (by rw [cg_119_2]; decide) (by rw [cg_119_2]; rfl) (by decide) ?_
                                refine lv_iconst (v := (0 : Int32)) hx hb dX11_value_253 (by decide) ?_
                                exact cx_iret C hI rfl hF dX11_value_254
                              by_cases cg_119_3 : (x1 - (524288 : Int32)) = (3 : Int32)
                              · refine lv_tableIn (off := 134) (tgt := 253) hx hb dX11_value_119 (by rw [cg_119_3]; decide) (by rw [cg_119_3]; decide) (by rw [cg_119_3]; rfl) (by decide) ?_
                                refine lv_iconst (v := (0 : Int32)) hx hb dX11_value_253 (by decide) ?_
                                exact cx_iret C hI rfl hF dX11_value_254
                              by_cases cg_119_7 : (x1 - (524288 : Int32)) = (7 : Int32)
                              · refine lv_tableIn (off := 134) (tgt := 253) hx hb dX11_value_119 (by rw [cg_119_7]; decide) (by rw [cg_119_7]; decide) (by rw [cg_119_7]; rfl) (by decide) ?_
                                refine lv_iconst (v := (0 : Int32)) hx hb dX11_value_253 (by decide) ?_
                                exact cx_iret C hI rfl hF dX11_value_254
                              by_cases cg_119_11 : (x1 - (524288 : Int32)) = (11 : Int32)
                              · refine lv_tableIn (off := 134) (tgt := 253) hx hb dX11_value_119 (by rw [cg_119_11]; decide) (by rw [cg_119_11]; decide) (by rw [cg_119_11]; rfl) (by decide) ?_
                                refine lv_iconst (v := (0 : Int32)) hx hb dX11_value_253 (by decide) ?_
                                exact cx_iret C hI rfl hF dX11_value_254
                              refine lv_tableOut (tgt := 253) hx hb dX11_value_119 (by have h0 := lv_neT (a := 1) c_119_0 (by decide); have h1 := lv_neT (a := 4) c_119_1 (by decide); have h2 := lv_neT (a := 5) c_119_2 (by decide); have h3 := lv_neT (a := 6) c_119_3 (by decide); have h4 := lv_neT (a := 8) c_119_4 (by decide); have h5 := lv_neT (a := 9) c_119_5 (by decide); have h6 := lv_neT (a := 10) c_119_6 (by decide); have h7 := lv_neT (a := 12) c_119_7 (by decide); have h8 := lv_neT (a := 13) c_119_8 (by decide); have h9 := lv_neT (a := 14) c_119_9 (by decide); have g0 := lv_neT (a := 2) cg_119_2 (by decide); have g1 := lv_neT (a := 3) cg_119_3 (by decide); have g2 := lv_neT (a := 7) cg_119_7 (by decide); have g3 := lv_neT (a := 11) cg_119_11 (by decide); omega) (by decide) ?_
                              refine lv_iconst (v := (0 : Int32)) hx hb dX11_value_253 (by decide) ?_
                              exact cx_iret C hI rfl hF dX11_value_254
        · have hF := hF.trans (if_neg c_68)
          have hO := hO.2 c_68
          refine lv_iload_n hx hb dX11_value_71 rfl (lv_at hl 0 rfl) ?_
          refine lv_bipush (v := (16 : Int32)) hx hb dX11_value_72 (by decide) ?_
          refine lv_isub hx hb dX11_value_74 ?_
          refine lv_iconst (v := (2 : Int32)) hx hb dX11_value_75 (by decide) ?_
          refine lv_ishr hx hb dX11_value_76 ?_
          refine lv_istore_n (lv' := [(3, .int (((x1 - (524288 : Int32)) - (16 : Int32)) >>> ((2 : Int32) &&& 31))), (2, .int (x1 - (524288 : Int32))), (0, .ref (gad g 0)), (1, .int x1)]) hx hb dX11_value_77 rfl hl (by decide) rfl (fun ls hl => ?_)
          refine lv_iload_n hx hb dX11_value_78 rfl (lv_at hl 1 rfl) ?_
          refine lv_iconst (v := (3 : Int32)) hx hb dX11_value_79 (by decide) ?_
          refine lv_iand hx hb dX11_value_80 ?_
          refine lv_if_ne (tgt := 97) hx hb dX11_value_81 (by decide) (fun c_81 => ?_) (fun c_81 => ?_)
          · have hF := hF.trans (if_neg c_81)
            have hO := hO.2 c_81
            refine lv_iload_n hx hb dX11_value_97 rfl (lv_at hl 1 rfl) ?_
            refine lv_iconst (v := (3 : Int32)) hx hb dX11_value_98 (by decide) ?_
            refine lv_iand hx hb dX11_value_99 ?_
            refine lv_iconst (v := (1 : Int32)) hx hb dX11_value_100 (by decide) ?_
            refine lv_icmp_ne (tgt := 116) hx hb dX11_value_101 (by decide) (fun c_101 => ?_) (fun c_101 => ?_)
            · have hF := hF.trans (if_neg c_101)
              have hO := hO.2 c_101
              refine lv_iconst (v := (0 : Int32)) hx hb dX11_value_116 (by decide) ?_
              exact cx_iret C hI rfl hF dX11_value_117
            · have hF := hF.trans (if_pos c_101)
              have hO := hO.1 c_101
              refine lv_aload_n hx hb dX11_value_104 rfl (lv_at hl 2 rfl) ?_
              refine va_get (D := gD g) (ci := 11) (C := RX11) (T := TX11) (N := 50) (v := .ref (gad g 16)) hx hb hts (fun w h => List.mem_cons_of_mem _ (isX110 w h)) hown hK hI.1 0 rfl rfl 26 (by decide) (hts _ (List.mem_cons_of_mem _ mw200)) (fun _ h9 => h9) rfl dX11_value_105 ?_
              refine lv_iload_n hx hb dX11_value_108 rfl (lv_at hl 0 rfl) ?_
              have hq_109_0 := hO.1
              have hO := hO.2
              refine va_iald (f := (gA st 15)) hx hb hK hI.1 16 15 rfl rfl hq_109_0 dX11_value_109 ?_
              refine lv_bipush (v := (8 : Int32)) hx hb dX11_value_110 (by decide) ?_
              refine lv_ishr hx hb dX11_value_112 ?_
              refine lv_goto (tgt := 117) hx hb dX11_value_113 (by decide) ?_
              exact cx_iret C hI rfl hF dX11_value_117
          · have hF := hF.trans (if_pos c_81)
            have hO := hO.1 c_81
            refine lv_aload_n hx hb dX11_value_84 rfl (lv_at hl 2 rfl) ?_
            refine va_get (D := gD g) (ci := 11) (C := RX11) (T := TX11) (N := 50) (v := .ref (gad g 16)) hx hb hts (fun w h => List.mem_cons_of_mem _ (isX110 w h)) hown hK hI.1 0 rfl rfl 26 (by decide) (hts _ (List.mem_cons_of_mem _ mw200)) (fun _ h9 => h9) rfl dX11_value_85 ?_
            refine lv_iload_n hx hb dX11_value_88 rfl (lv_at hl 0 rfl) ?_
            have hq_89_0 := hO.1
            have hO := hO.2
            refine va_iald (f := (gA st 15)) hx hb hK hI.1 16 15 rfl rfl hq_89_0 dX11_value_89 ?_
            refine lv_sipush (v := (255 : Int32)) hx hb dX11_value_90 (by decide) ?_
            refine lv_iand hx hb dX11_value_93 ?_
            refine lv_goto (tgt := 117) hx hb dX11_value_94 (by decide) ?_
            exact cx_iret C hI rfl hF dX11_value_117
      · have hF := hF.trans (if_pos c_28)
        have hO := hO.1 c_28
        refine lv_aload_n hx hb dX11_value_31 rfl (lv_at hl 0 rfl) ?_
        refine va_get (D := gD g) (ci := 11) (C := RX11) (T := TX11) (N := 50) (v := .int (gI st 18)) hx hb hts (fun w h => List.mem_cons_of_mem _ (isX110 w h)) hown hK hI.1 0 rfl rfl 35 (by decide) (hts _ (List.mem_cons_of_mem _ mw225)) (fun _ h9 => h9) rfl dX11_value_32 ?_
        refine lv_if_le (tgt := 42) hx hb dX11_value_35 (by decide) (fun c_35 => ?_) (fun c_35 => ?_)
        · have hF := hF.trans (if_pos c_35)
          refine lv_aload_n hx hb dX11_value_42 rfl (lv_at hl 0 rfl) ?_
          refine va_get (D := gD g) (ci := 11) (C := RX11) (T := TX11) (N := 50) (v := .int (gI st 22)) hx hb hts (fun w h => List.mem_cons_of_mem _ (isX110 w h)) hown hK hI.1 0 rfl rfl 39 (by decide) (hts _ (List.mem_cons_of_mem _ mw227)) (fun _ h9 => h9) rfl dX11_value_43 ?_
          refine lv_if_eq (tgt := 53) hx hb dX11_value_46 (by decide) (fun c_46 => ?_) (fun c_46 => ?_)
          · have hF := hF.trans (if_pos c_46)
            refine lv_iconst (v := (0 : Int32)) hx hb dX11_value_53 (by decide) ?_
            exact cx_iret C hI rfl hF dX11_value_54
          · have hF := hF.trans (if_neg c_46)
            refine lv_iconst (v := (2 : Int32)) hx hb dX11_value_49 (by decide) ?_
            refine lv_goto (tgt := 54) hx hb dX11_value_50 (by decide) ?_
            exact cx_iret C hI rfl hF dX11_value_54
        · have hF := hF.trans (if_neg c_35)
          refine lv_iconst (v := (1 : Int32)) hx hb dX11_value_38 (by decide) ?_
          refine lv_goto (tgt := 54) hx hb dX11_value_39 (by decide) ?_
          exact cx_iret C hI rfl hF dX11_value_54
    · have hF := hF.trans (if_pos c_16)
      have hO := hO.1 c_16
      refine lv_aload_n hx hb dX11_value_19 rfl (lv_at hl 0 rfl) ?_
      refine va_get (D := gD g) (ci := 11) (C := RX11) (T := TX11) (N := 50) (v := .int (gI st 17)) hx hb hts (fun w h => List.mem_cons_of_mem _ (isX110 w h)) hown hK hI.1 0 rfl rfl 34 (by decide) (hts _ (List.mem_cons_of_mem _ mw224)) (fun _ h9 => h9) rfl dX11_value_20 ?_
      exact cx_iret C hI rfl hF dX11_value_23
  · have hF := hF.trans (if_pos c_4)
    have hO := hO.1 c_4
    refine lv_aload_n hx hb dX11_value_7 rfl (lv_at hl 0 rfl) ?_
    refine va_get (D := gD g) (ci := 11) (C := RX11) (T := TX11) (N := 50) (v := .int (gI st 16)) hx hb hts (fun w h => List.mem_cons_of_mem _ (isX110 w h)) hown hK hI.1 0 rfl rfl 33 (by decide) (hts _ (List.mem_cons_of_mem _ mw223)) (fun _ h9 => h9) rfl dX11_value_8 ?_
    exact cx_iret C hI rfl hF dX11_value_11
set_option maxHeartbeats 4000000 in
set_option maxRecDepth 100000 in
theorem c_m_value (l : Launch) (g : Gm) (st : CS) (x1 : Int32) (hO : o_m_value st x1) : Mi l yX11_value wq_X11_value rm_m_value (gD g) vwCl (mty g) (mw g) (mz g) [.ref (gad g 0), .int x1] st st (m_value st x1) := by
  intro sz
  refine Met.ofW (cc := cX11_value) (maxL := 4) (ret := (some .int)) (by decide) rfl ?_
  intro p e s m args below meth c s₁ B hml hv
  obtain ⟨rfl, hsz, hP, hK, hD0, hZ⟩ := hv
  subst hsz
  have hl := lv_entry ([.ref (gad g 0), .int x1]) (n := 4) (Nat.le_of_ble_eq_true rfl)
  rw [lg_entry_eq]
  generalize (lg_sl ([.ref (gad g 0), .int x1]) ++ List.replicate (4 - (lg_sl ([.ref (gad g 0), .int x1])).length) Slot.unset).toArray = ls at hl ⊢
  exact k_m_value g ⟨B.exec, B.bytes, B.returns, hml, findClass_of_methodNamed B.named, atoms_spec (ws := wq_X11_value) B.pre, B.notSynchronized, hK, fun q h => Or.inr h, hZ, mz_ok g⟩ st x1 _ _ ls ⟨hP, hD0.self, va_S.rf⟩ hl hO _ rfl
abbrev wq_X11_readFar : List Cond := .code yX11_readFar cX11_readFar 4 (some .int) :: wAll
theorem yd_yX11_readFar : yX11_readFar.cls = RX11 ∧ yX11_readFar.cls ≠ "java/lang/invoke/MethodHandle" ∧ yX11_readFar.cls ≠ "java/lang/invoke/VarHandle" ∧ (parseMethodDescriptor yX11_readFar.desc).map (fun d => d.parameters.length) = some 1 := by decide +kernel
abbrev rm_m_readFar : Room := { frames := 2, cells := 0, slots := 0, locals := 45 }
def m_readFar_b32 (st : CS) (x2 : Int32) (x3 : Int32) : CS × Int32 := (if (x2 = (16386 : Int32)) then ((sI st 23 (0 : Int32)), x3) else (st, x3))
set_option maxHeartbeats 4000000 in
set_option maxRecDepth 100000 in
theorem k_m_readFar_b32 {p : Program} {l : Launch} {e : Env} {s : State} {m : MethodId} {args : Array Value} {below : List Frame} {meth : Method} {c : Code} {A : Nat → Prop} (g : Gm) (C : cX p s m args meth c A cX11_readFar (some .int) 4 RX11 wq_X11_readFar (gD g) vwCl (mty g) (mz g)) (st : CS) (x2 : Int32) (x3 : Int32) (H : Heap) (locs : List Loc) (ls : Array Slot) (hI : cI (gD g) vwCl (mw g) A s st H locs) (hl : lv_has ls 4 [(0, .ref (gad g 0)), (2, .int x2), (3, .int x3)]) (X : CS × Int32) (hF : X = m_readFar_b32 st x2 x3) : W p l e rm_m_readFar s m args below meth c H locs 0 0 (MQ below (cQi (gD g) vwCl (mty g) (mw g) A X.1 X.2) args s 0 0 A) (F0 m 32 ls []) := by
  obtain ⟨hx, hb, hr, hml, hown, hts, hlocks, hK, hA, hZ, hzo⟩ := id C
  unfold m_readFar_b32 at hF
  refine lv_iload_n hx hb dX11_readFar_32 rfl (lv_at hl 1 rfl) ?_
  refine lv_sipush (v := (16386 : Int32)) hx hb dX11_readFar_33 (by decide) ?_
  refine lv_icmp_ne (tgt := 44) hx hb dX11_readFar_36 (by decide) (fun c_36 => ?_) (fun c_36 => ?_)
  · have hF := hF.trans (if_neg c_36)
    refine lv_iload_n hx hb dX11_readFar_44 rfl (lv_at hl 2 rfl) ?_
    exact cx_iret C hI (congrArg Prod.fst hF) (congrArg Prod.snd hF) dX11_readFar_45
  · have hF := hF.trans (if_pos c_36)
    refine lv_aload_n hx hb dX11_readFar_39 rfl (lv_at hl 0 rfl) ?_
    refine lv_iconst (v := (0 : Int32)) hx hb dX11_readFar_40 (by decide) ?_
    refine va_put (D := gD g) (ci := 11) (C := RX11) (T := TX11) (N := 50) (v := .int (0 : Int32)) (ty := .boolean) hx hb hts (fun w h => List.mem_cons_of_mem _ (isX110 w h)) tyX11 tyX11_ok nmX11 hown hK hI.1 hI.2.1 hI.2.2 0 rfl rfl 40 (by decide) (hts _ (List.mem_cons_of_mem _ mw228)) (fun _ h9 => h9) rfl (by decide +kernel) rfl rfl (Nat.le_of_ble_eq_true rfl) dX11_readFar_41 (fun H locs hP hD hS => ?_)
    have hI : cI (gD g) vwCl (mw g) A s (sI st 23 (0 : Int32)) H locs := ⟨hP, hD, hS⟩
    refine lv_iload_n hx hb dX11_readFar_44 rfl (lv_at hl 2 rfl) ?_
    exact cx_iret C hI (congrArg Prod.fst hF) (congrArg Prod.snd hF) dX11_readFar_45
def m_readFar (st : CS) (x1 : Int32) : CS × Int32 := (if (x1 < (54525952 : Int32)) then (if (((ushr x1 (2 : Int32)) &&& (1048575 : Int32)) = (524289 : Int32)) then (m_readFar_b32 (sI st 14 (0 : Int32)) ((ushr x1 (2 : Int32)) &&& (1048575 : Int32)) (m_value st ((ushr x1 (2 : Int32)) &&& (1048575 : Int32)))) else (m_readFar_b32 st ((ushr x1 (2 : Int32)) &&& (1048575 : Int32)) (m_value st ((ushr x1 (2 : Int32)) &&& (1048575 : Int32))))) else (st, (0 : Int32)))
def o_m_readFar (st : CS) (x1 : Int32) : Prop := (((x1 < (54525952 : Int32)) → ((o_m_value st ((ushr x1 (2 : Int32)) &&& (1048575 : Int32))) ∧ True)) ∧ (¬ (x1 < (54525952 : Int32)) → True))
set_option maxHeartbeats 4000000 in
set_option maxRecDepth 100000 in
theorem k_m_readFar {p : Program} {l : Launch} {e : Env} {s : State} {m : MethodId} {args : Array Value} {below : List Frame} {meth : Method} {c : Code} {A : Nat → Prop} (g : Gm) (C : cX p s m args meth c A cX11_readFar (some .int) 4 RX11 wq_X11_readFar (gD g) vwCl (mty g) (mz g)) (st : CS) (x1 : Int32) (H : Heap) (locs : List Loc) (ls : Array Slot) (hI : cI (gD g) vwCl (mw g) A s st H locs) (hl : lv_has ls 4 [(0, .ref (gad g 0)), (1, .int x1)]) (hO : o_m_readFar st x1) (X : CS × Int32) (hF : X = m_readFar st x1) : W p l e rm_m_readFar s m args below meth c H locs 0 0 (MQ below (cQi (gD g) vwCl (mty g) (mw g) A X.1 X.2) args s 0 0 A) (F0 m 0 ls []) := by
  obtain ⟨hx, hb, hr, hml, hown, hts, hlocks, hK, hA, hZ, hzo⟩ := id C
  unfold m_readFar at hF
  unfold o_m_readFar at hO
  refine lv_iload_n hx hb dX11_readFar_0 rfl (lv_at hl 1 rfl) ?_
  refine lv_ldc (v := (54525952 : Int32)) hx hb hown (hts _ (List.mem_cons_of_mem _ mw881)) dX11_readFar_1 ?_
  refine lv_icmp_lt (tgt := 8) hx hb dX11_readFar_3 (by decide) (fun c_3 => ?_) (fun c_3 => ?_)
  · have hF := hF.trans (if_pos c_3)
    have hO := hO.1 c_3
    refine lv_iload_n hx hb dX11_readFar_8 rfl (lv_at hl 1 rfl) ?_
    refine lv_iconst (v := (2 : Int32)) hx hb dX11_readFar_9 (by decide) ?_
    refine lv_iushr (v := (ushr x1 (2 : Int32))) hx hb dX11_readFar_10 rfl ?_
    refine lv_ldc (v := (1048575 : Int32)) hx hb hown (hts _ (List.mem_cons_of_mem _ mw882)) dX11_readFar_11 ?_
    refine lv_iand hx hb dX11_readFar_13 ?_
    refine lv_istore_n (lv' := [(2, .int ((ushr x1 (2 : Int32)) &&& (1048575 : Int32))), (0, .ref (gad g 0)), (1, .int x1)]) hx hb dX11_readFar_14 rfl hl (by decide) rfl (fun ls hl => ?_)
    refine lv_aload_n hx hb dX11_readFar_15 rfl (lv_at hl 1 rfl) ?_
    refine lv_iload_n hx hb dX11_readFar_16 rfl (lv_at hl 0 rfl) ?_
    have hq_17_0 := hO.1
    have hO := hO.2
    refine cx_Vi (As := [.int ((ushr x1 (2 : Int32)) &&& (1048575 : Int32))]) (rest := []) C (c_m_value l g st ((ushr x1 (2 : Int32)) &&& (1048575 : Int32)) hq_17_0) (cwV 1 hts (gd_V _ mw884 mw885 mw886 mw3 mw887) rfl rfl rfl yd_yX11_value ⟨Nat.le_of_ble_eq_true rfl, Nat.le_of_ble_eq_true rfl⟩) (va_recv hK hI.1 (ci := 11) (q0 := 0) rfl rfl) hI rfl hl.1 rfl (Nat.le_of_ble_eq_true rfl) dX11_readFar_17 (fun H locs hI => ?_)
    refine lv_istore_n (lv' := [(3, .int (m_value st ((ushr x1 (2 : Int32)) &&& (1048575 : Int32)))), (2, .int ((ushr x1 (2 : Int32)) &&& (1048575 : Int32))), (0, .ref (gad g 0)), (1, .int x1)]) hx hb dX11_readFar_20 rfl hl (by decide) rfl (fun ls hl => ?_)
    refine lv_iload_n hx hb dX11_readFar_21 rfl (lv_at hl 1 rfl) ?_
    refine lv_ldc (v := (524289 : Int32)) hx hb hown (hts _ (List.mem_cons_of_mem _ mw883)) dX11_readFar_22 ?_
    refine lv_icmp_ne (tgt := 32) hx hb dX11_readFar_24 (by decide) (fun c_24 => ?_) (fun c_24 => ?_)
    · have hF := hF.trans (if_neg c_24)
      exact k_m_readFar_b32 g C st ((ushr x1 (2 : Int32)) &&& (1048575 : Int32)) (m_value st ((ushr x1 (2 : Int32)) &&& (1048575 : Int32))) H locs ls hI (lv_sub hl [2, 1, 0] rfl) X hF
    · have hF := hF.trans (if_pos c_24)
      refine lv_aload_n hx hb dX11_readFar_27 rfl (lv_at hl 2 rfl) ?_
      refine lv_iconst (v := (0 : Int32)) hx hb dX11_readFar_28 (by decide) ?_
      refine va_put (D := gD g) (ci := 11) (C := RX11) (T := TX11) (N := 50) (v := .int (0 : Int32)) (ty := .boolean) hx hb hts (fun w h => List.mem_cons_of_mem _ (isX110 w h)) tyX11 tyX11_ok nmX11 hown hK hI.1 hI.2.1 hI.2.2 0 rfl rfl 31 (by decide) (hts _ (List.mem_cons_of_mem _ mw221)) (fun _ h9 => h9) rfl (by decide +kernel) rfl rfl (Nat.le_of_ble_eq_true rfl) dX11_readFar_29 (fun H locs hP hD hS => ?_)
      have hI : cI (gD g) vwCl (mw g) A s (sI st 14 (0 : Int32)) H locs := ⟨hP, hD, hS⟩
      exact k_m_readFar_b32 g C (sI st 14 (0 : Int32)) ((ushr x1 (2 : Int32)) &&& (1048575 : Int32)) (m_value st ((ushr x1 (2 : Int32)) &&& (1048575 : Int32))) H locs ls hI (lv_sub hl [2, 1, 0] rfl) X hF
  · have hF := hF.trans (if_neg c_3)
    have hO := hO.2 c_3
    refine lv_iconst (v := (0 : Int32)) hx hb dX11_readFar_6 (by decide) ?_
    exact cx_iret C hI (congrArg Prod.fst hF) (congrArg Prod.snd hF) dX11_readFar_7
set_option maxHeartbeats 4000000 in
set_option maxRecDepth 100000 in
theorem c_m_readFar (l : Launch) (g : Gm) (st : CS) (x1 : Int32) (hO : o_m_readFar st x1) : Mi l yX11_readFar wq_X11_readFar rm_m_readFar (gD g) vwCl (mty g) (mw g) (mz g) [.ref (gad g 0), .int x1] st (m_readFar st x1).1 (m_readFar st x1).2 := by
  intro sz
  refine Met.ofW (cc := cX11_readFar) (maxL := 4) (ret := (some .int)) (by decide) rfl ?_
  intro p e s m args below meth c s₁ B hml hv
  obtain ⟨rfl, hsz, hP, hK, hD0, hZ⟩ := hv
  subst hsz
  have hl := lv_entry ([.ref (gad g 0), .int x1]) (n := 4) (Nat.le_of_ble_eq_true rfl)
  rw [lg_entry_eq]
  generalize (lg_sl ([.ref (gad g 0), .int x1]) ++ List.replicate (4 - (lg_sl ([.ref (gad g 0), .int x1])).length) Slot.unset).toArray = ls at hl ⊢
  exact k_m_readFar g ⟨B.exec, B.bytes, B.returns, hml, findClass_of_methodNamed B.named, atoms_spec (ws := wq_X11_readFar) B.pre, B.notSynchronized, hK, fun q h => Or.inr h, hZ, mz_ok g⟩ st x1 _ _ ls ⟨hP, hD0.self, va_S.rf⟩ hl hO _ rfl
abbrev wq_X11_disk : List Cond := .code yX11_disk cX11_disk 2 none :: wAll
theorem yd_yX11_disk : yX11_disk.cls = RX11 ∧ yX11_disk.cls ≠ "java/lang/invoke/MethodHandle" ∧ yX11_disk.cls ≠ "java/lang/invoke/VarHandle" ∧ (parseMethodDescriptor yX11_disk.desc).map (fun d => d.parameters.length) = some 1 := by decide +kernel
abbrev rm_m_disk : Room := { frames := 0, cells := 0, slots := 0, locals := 0 }
def m_disk_b42 (st : CS) (x1 : Int32) (y0 : Int32) : CS := (if (y0 = 0) then (sI (sI (sI (sI (sI st 22 y0) 18 (5000 : Int32)) 19 x1) 20 (gI st 16)) 21 (gI st 17)) else (sI (sI st 22 y0) 23 (1 : Int32)))
def o_m_disk_b42 (st : CS) (x1 : Int32) (y0 : Int32) : Prop := ((y0 = (0 : Int32) ∨ y0 = (1 : Int32)) ∧ True)
set_option maxHeartbeats 4000000 in
set_option maxRecDepth 100000 in
theorem k_m_disk_b42 {p : Program} {l : Launch} {e : Env} {s : State} {m : MethodId} {args : Array Value} {below : List Frame} {meth : Method} {c : Code} {A : Nat → Prop} (g : Gm) (C : cX p s m args meth c A cX11_disk none 2 RX11 wq_X11_disk (gD g) vwCl (mty g) (mz g)) (st : CS) (x1 : Int32) (y0 : Int32) (H : Heap) (locs : List Loc) (ls : Array Slot) (hI : cI (gD g) vwCl (mw g) A s st H locs) (hl : lv_has ls 2 [(0, .ref (gad g 0)), (1, .int x1)]) (hO : o_m_disk_b42 st x1 y0) (X : CS) (hF : X = m_disk_b42 st x1 y0) : W p l e rm_m_disk s m args below meth c H locs 0 0 (MQ below (cQv (gD g) vwCl (mty g) (mw g) A X) args s 0 0 A) (F0 m 42 ls [.int y0, .ref (gad g 0)]) := by
  obtain ⟨hx, hb, hr, hml, hown, hts, hlocks, hK, hA, hZ, hzo⟩ := id C
  unfold m_disk_b42 at hF
  unfold o_m_disk_b42 at hO
  have hq_42_0 := hO.1
  have hO := hO.2
  refine va_put (D := gD g) (ci := 11) (C := RX11) (T := TX11) (N := 50) (v := .int y0) (ty := .boolean) hx hb hts (fun w h => List.mem_cons_of_mem _ (isX110 w h)) tyX11 tyX11_ok nmX11 hown hK hI.1 hI.2.1 hI.2.2 0 rfl rfl 39 (by decide) (hts _ (List.mem_cons_of_mem _ mw227)) (fun _ h9 => h9) rfl (by decide +kernel) (nar_b hq_42_0) (fit_b hq_42_0) (Nat.le_of_ble_eq_true rfl) dX11_disk_42 (fun H locs hP hD hS => ?_)
  have hI : cI (gD g) vwCl (mw g) A s (sI st 22 y0) H locs := ⟨hP, hD, hS⟩
  refine lv_aload_n hx hb dX11_disk_45 rfl (lv_at hl 0 rfl) ?_
  refine va_get (D := gD g) (ci := 11) (C := RX11) (T := TX11) (N := 50) (v := .int y0) hx hb hts (fun w h => List.mem_cons_of_mem _ (isX110 w h)) hown hK hI.1 0 rfl rfl 39 (by decide) (hts _ (List.mem_cons_of_mem _ mw227)) (fun _ h9 => h9) rfl dX11_disk_46 ?_
  refine lv_if_eq (tgt := 58) hx hb dX11_disk_49 (by decide) (fun c_49 => ?_) (fun c_49 => ?_)
  · have hF := hF.trans (if_pos c_49)
    refine lv_aload_n hx hb dX11_disk_58 rfl (lv_at hl 0 rfl) ?_
    refine lv_sipush (v := (5000 : Int32)) hx hb dX11_disk_59 (by decide) ?_
    refine va_put (D := gD g) (ci := 11) (C := RX11) (T := TX11) (N := 50) (v := .int (5000 : Int32)) (ty := .int) hx hb hts (fun w h => List.mem_cons_of_mem _ (isX110 w h)) tyX11 tyX11_ok nmX11 hown hK hI.1 hI.2.1 hI.2.2 0 rfl rfl 35 (by decide) (hts _ (List.mem_cons_of_mem _ mw225)) (fun _ h9 => h9) rfl (by decide +kernel) rfl rfl (Nat.le_of_ble_eq_true rfl) dX11_disk_62 (fun H locs hP hD hS => ?_)
    have hI : cI (gD g) vwCl (mw g) A s (sI (sI st 22 y0) 18 (5000 : Int32)) H locs := ⟨hP, hD, hS⟩
    refine lv_aload_n hx hb dX11_disk_65 rfl (lv_at hl 0 rfl) ?_
    refine lv_iload_n hx hb dX11_disk_66 rfl (lv_at hl 1 rfl) ?_
    refine va_put (D := gD g) (ci := 11) (C := RX11) (T := TX11) (N := 50) (v := .int x1) (ty := .int) hx hb hts (fun w h => List.mem_cons_of_mem _ (isX110 w h)) tyX11 tyX11_ok nmX11 hown hK hI.1 hI.2.1 hI.2.2 0 rfl rfl 36 (by decide) (hts _ (List.mem_cons_of_mem _ mw226)) (fun _ h9 => h9) rfl (by decide +kernel) rfl rfl (Nat.le_of_ble_eq_true rfl) dX11_disk_67 (fun H locs hP hD hS => ?_)
    have hI : cI (gD g) vwCl (mw g) A s (sI (sI (sI st 22 y0) 18 (5000 : Int32)) 19 x1) H locs := ⟨hP, hD, hS⟩
    refine lv_aload_n hx hb dX11_disk_70 rfl (lv_at hl 0 rfl) ?_
    refine lv_aload_n hx hb dX11_disk_71 rfl (lv_at hl 0 rfl) ?_
    refine va_get (D := gD g) (ci := 11) (C := RX11) (T := TX11) (N := 50) (v := .int (gI st 16)) hx hb hts (fun w h => List.mem_cons_of_mem _ (isX110 w h)) hown hK hI.1 0 rfl rfl 33 (by decide) (hts _ (List.mem_cons_of_mem _ mw223)) (fun _ h9 => h9) rfl dX11_disk_72 ?_
    refine va_put (D := gD g) (ci := 11) (C := RX11) (T := TX11) (N := 50) (v := .int (gI st 16)) (ty := .int) hx hb hts (fun w h => List.mem_cons_of_mem _ (isX110 w h)) tyX11 tyX11_ok nmX11 hown hK hI.1 hI.2.1 hI.2.2 0 rfl rfl 37 (by decide) (hts _ (List.mem_cons_of_mem _ mw905)) (fun _ h9 => h9) rfl (by decide +kernel) rfl rfl (Nat.le_of_ble_eq_true rfl) dX11_disk_75 (fun H locs hP hD hS => ?_)
    have hI : cI (gD g) vwCl (mw g) A s (sI (sI (sI (sI st 22 y0) 18 (5000 : Int32)) 19 x1) 20 (gI st 16)) H locs := ⟨hP, hD, hS⟩
    refine lv_aload_n hx hb dX11_disk_78 rfl (lv_at hl 0 rfl) ?_
    refine lv_aload_n hx hb dX11_disk_79 rfl (lv_at hl 0 rfl) ?_
    refine va_get (D := gD g) (ci := 11) (C := RX11) (T := TX11) (N := 50) (v := .int (gI st 17)) hx hb hts (fun w h => List.mem_cons_of_mem _ (isX110 w h)) hown hK hI.1 0 rfl rfl 34 (by decide) (hts _ (List.mem_cons_of_mem _ mw224)) (fun _ h9 => h9) rfl dX11_disk_80 ?_
    refine va_put (D := gD g) (ci := 11) (C := RX11) (T := TX11) (N := 50) (v := .int (gI st 17)) (ty := .int) hx hb hts (fun w h => List.mem_cons_of_mem _ (isX110 w h)) tyX11 tyX11_ok nmX11 hown hK hI.1 hI.2.1 hI.2.2 0 rfl rfl 38 (by decide) (hts _ (List.mem_cons_of_mem _ mw906)) (fun _ h9 => h9) rfl (by decide +kernel) rfl rfl (Nat.le_of_ble_eq_true rfl) dX11_disk_83 (fun H locs hP hD hS => ?_)
    have hI : cI (gD g) vwCl (mw g) A s (sI (sI (sI (sI (sI st 22 y0) 18 (5000 : Int32)) 19 x1) 20 (gI st 16)) 21 (gI st 17)) H locs := ⟨hP, hD, hS⟩
    exact cx_vret C hI hF dX11_disk_86
  · have hF := hF.trans (if_neg c_49)
    refine lv_aload_n hx hb dX11_disk_52 rfl (lv_at hl 0 rfl) ?_
    refine lv_iconst (v := (1 : Int32)) hx hb dX11_disk_53 (by decide) ?_
    refine va_put (D := gD g) (ci := 11) (C := RX11) (T := TX11) (N := 50) (v := .int (1 : Int32)) (ty := .boolean) hx hb hts (fun w h => List.mem_cons_of_mem _ (isX110 w h)) tyX11 tyX11_ok nmX11 hown hK hI.1 hI.2.1 hI.2.2 0 rfl rfl 40 (by decide) (hts _ (List.mem_cons_of_mem _ mw228)) (fun _ h9 => h9) rfl (by decide +kernel) rfl rfl (Nat.le_of_ble_eq_true rfl) dX11_disk_54 (fun H locs hP hD hS => ?_)
    have hI : cI (gD g) vwCl (mw g) A s (sI (sI st 22 y0) 23 (1 : Int32)) H locs := ⟨hP, hD, hS⟩
    exact cx_vret C hI hF dX11_disk_57
def m_disk_b37 (st : CS) (x1 : Int32) : CS := (m_disk_b42 st x1 (1 : Int32))
def o_m_disk_b37 (st : CS) (x1 : Int32) : Prop := (o_m_disk_b42 st x1 (1 : Int32))
set_option maxHeartbeats 4000000 in
set_option maxRecDepth 100000 in
theorem k_m_disk_b37 {p : Program} {l : Launch} {e : Env} {s : State} {m : MethodId} {args : Array Value} {below : List Frame} {meth : Method} {c : Code} {A : Nat → Prop} (g : Gm) (C : cX p s m args meth c A cX11_disk none 2 RX11 wq_X11_disk (gD g) vwCl (mty g) (mz g)) (st : CS) (x1 : Int32) (H : Heap) (locs : List Loc) (ls : Array Slot) (hI : cI (gD g) vwCl (mw g) A s st H locs) (hl : lv_has ls 2 [(0, .ref (gad g 0)), (1, .int x1)]) (hO : o_m_disk_b37 st x1) (X : CS) (hF : X = m_disk_b37 st x1) : W p l e rm_m_disk s m args below meth c H locs 0 0 (MQ below (cQv (gD g) vwCl (mty g) (mw g) A X) args s 0 0 A) (F0 m 37 ls [.ref (gad g 0)]) := by
  obtain ⟨hx, hb, hr, hml, hown, hts, hlocks, hK, hA, hZ, hzo⟩ := id C
  unfold m_disk_b37 at hF
  unfold o_m_disk_b37 at hO
  refine lv_iconst (v := (1 : Int32)) hx hb dX11_disk_37 (by decide) ?_
  refine lv_goto (tgt := 42) hx hb dX11_disk_38 (by decide) ?_
  exact k_m_disk_b42 g C st x1 (1 : Int32) H locs ls hI (lv_sub hl [0, 1] rfl) hO X hF
def m_disk_b19 (st : CS) (x1 : Int32) : CS := (if ((15 : Int32) < (gI st 16)) then (m_disk_b37 st x1) else (if ((gI st 17) ≤ (15 : Int32)) then (m_disk_b42 st x1 (0 : Int32)) else (m_disk_b37 st x1)))
def o_m_disk_b19 (st : CS) (x1 : Int32) : Prop := ((((15 : Int32) < (gI st 16)) → (o_m_disk_b37 st x1)) ∧ (¬ ((15 : Int32) < (gI st 16)) → ((((gI st 17) ≤ (15 : Int32)) → (o_m_disk_b42 st x1 (0 : Int32))) ∧ (¬ ((gI st 17) ≤ (15 : Int32)) → (o_m_disk_b37 st x1)))))
set_option maxHeartbeats 4000000 in
set_option maxRecDepth 100000 in
theorem k_m_disk_b19 {p : Program} {l : Launch} {e : Env} {s : State} {m : MethodId} {args : Array Value} {below : List Frame} {meth : Method} {c : Code} {A : Nat → Prop} (g : Gm) (C : cX p s m args meth c A cX11_disk none 2 RX11 wq_X11_disk (gD g) vwCl (mty g) (mz g)) (st : CS) (x1 : Int32) (H : Heap) (locs : List Loc) (ls : Array Slot) (hI : cI (gD g) vwCl (mw g) A s st H locs) (hl : lv_has ls 2 [(0, .ref (gad g 0)), (1, .int x1)]) (hO : o_m_disk_b19 st x1) (X : CS) (hF : X = m_disk_b19 st x1) : W p l e rm_m_disk s m args below meth c H locs 0 0 (MQ below (cQv (gD g) vwCl (mty g) (mw g) A X) args s 0 0 A) (F0 m 19 ls [.ref (gad g 0)]) := by
  obtain ⟨hx, hb, hr, hml, hown, hts, hlocks, hK, hA, hZ, hzo⟩ := id C
  unfold m_disk_b19 at hF
  unfold o_m_disk_b19 at hO
  refine lv_aload_n hx hb dX11_disk_19 rfl (lv_at hl 0 rfl) ?_
  refine va_get (D := gD g) (ci := 11) (C := RX11) (T := TX11) (N := 50) (v := .int (gI st 16)) hx hb hts (fun w h => List.mem_cons_of_mem _ (isX110 w h)) hown hK hI.1 0 rfl rfl 33 (by decide) (hts _ (List.mem_cons_of_mem _ mw223)) (fun _ h9 => h9) rfl dX11_disk_20 ?_
  refine lv_bipush (v := (15 : Int32)) hx hb dX11_disk_23 (by decide) ?_
  refine lv_icmp_gt (tgt := 37) hx hb dX11_disk_25 (by decide) (fun c_25 => ?_) (fun c_25 => ?_)
  · have hF := hF.trans (if_pos c_25)
    have hO := hO.1 c_25
    exact k_m_disk_b37 g C st x1 H locs ls hI (lv_sub hl [0, 1] rfl) hO X hF
  · have hF := hF.trans (if_neg c_25)
    have hO := hO.2 c_25
    refine lv_aload_n hx hb dX11_disk_28 rfl (lv_at hl 0 rfl) ?_
    refine va_get (D := gD g) (ci := 11) (C := RX11) (T := TX11) (N := 50) (v := .int (gI st 17)) hx hb hts (fun w h => List.mem_cons_of_mem _ (isX110 w h)) hown hK hI.1 0 rfl rfl 34 (by decide) (hts _ (List.mem_cons_of_mem _ mw224)) (fun _ h9 => h9) rfl dX11_disk_29 ?_
    refine lv_bipush (v := (15 : Int32)) hx hb dX11_disk_32 (by decide) ?_
    refine lv_icmp_le (tgt := 41) hx hb dX11_disk_34 (by decide) (fun c_34 => ?_) (fun c_34 => ?_)
    · have hF := hF.trans (if_pos c_34)
      have hO := hO.1 c_34
      refine lv_iconst (v := (0 : Int32)) hx hb dX11_disk_41 (by decide) ?_
      exact k_m_disk_b42 g C st x1 (0 : Int32) H locs ls hI (lv_sub hl [0, 1] rfl) hO X hF
    · have hF := hF.trans (if_neg c_34)
      have hO := hO.2 c_34
      exact k_m_disk_b37 g C st x1 H locs ls hI (lv_sub hl [0, 1] rfl) hO X hF
def m_disk (st : CS) (x1 : Int32) : CS := (if ((gI st 18) ≤ 0) then (if (x1 = (1 : Int32)) then (m_disk_b19 st x1) else (if (x1 = (2 : Int32)) then (m_disk_b19 st x1) else (m_disk_b37 st x1))) else st)
def o_m_disk (st : CS) (x1 : Int32) : Prop := ((((gI st 18) ≤ 0) → (((x1 = (1 : Int32)) → (o_m_disk_b19 st x1)) ∧ (¬ (x1 = (1 : Int32)) → (((x1 = (2 : Int32)) → (o_m_disk_b19 st x1)) ∧ (¬ (x1 = (2 : Int32)) → (o_m_disk_b37 st x1)))))) ∧ (¬ ((gI st 18) ≤ 0) → True))
set_option maxHeartbeats 4000000 in
set_option maxRecDepth 100000 in
theorem k_m_disk {p : Program} {l : Launch} {e : Env} {s : State} {m : MethodId} {args : Array Value} {below : List Frame} {meth : Method} {c : Code} {A : Nat → Prop} (g : Gm) (C : cX p s m args meth c A cX11_disk none 2 RX11 wq_X11_disk (gD g) vwCl (mty g) (mz g)) (st : CS) (x1 : Int32) (H : Heap) (locs : List Loc) (ls : Array Slot) (hI : cI (gD g) vwCl (mw g) A s st H locs) (hl : lv_has ls 2 [(0, .ref (gad g 0)), (1, .int x1)]) (hO : o_m_disk st x1) (X : CS) (hF : X = m_disk st x1) : W p l e rm_m_disk s m args below meth c H locs 0 0 (MQ below (cQv (gD g) vwCl (mty g) (mw g) A X) args s 0 0 A) (F0 m 0 ls []) := by
  obtain ⟨hx, hb, hr, hml, hown, hts, hlocks, hK, hA, hZ, hzo⟩ := id C
  unfold m_disk at hF
  unfold o_m_disk at hO
  refine lv_aload_n hx hb dX11_disk_0 rfl (lv_at hl 0 rfl) ?_
  refine va_get (D := gD g) (ci := 11) (C := RX11) (T := TX11) (N := 50) (v := .int (gI st 18)) hx hb hts (fun w h => List.mem_cons_of_mem _ (isX110 w h)) hown hK hI.1 0 rfl rfl 35 (by decide) (hts _ (List.mem_cons_of_mem _ mw225)) (fun _ h9 => h9) rfl dX11_disk_1 ?_
  refine lv_if_le (tgt := 8) hx hb dX11_disk_4 (by decide) (fun c_4 => ?_) (fun c_4 => ?_)
  · have hF := hF.trans (if_pos c_4)
    have hO := hO.1 c_4
    refine lv_aload_n hx hb dX11_disk_8 rfl (lv_at hl 0 rfl) ?_
    refine lv_iload_n hx hb dX11_disk_9 rfl (lv_at hl 1 rfl) ?_
    refine lv_iconst (v := (1 : Int32)) hx hb dX11_disk_10 (by decide) ?_
    refine lv_icmp_eq (tgt := 19) hx hb dX11_disk_11 (by decide) (fun c_11 => ?_) (fun c_11 => ?_)
    · have hF := hF.trans (if_pos c_11)
      have hO := hO.1 c_11
      exact k_m_disk_b19 g C st x1 H locs ls hI (lv_sub hl [0, 1] rfl) hO X hF
    · have hF := hF.trans (if_neg c_11)
      have hO := hO.2 c_11
      refine lv_iload_n hx hb dX11_disk_14 rfl (lv_at hl 1 rfl) ?_
      refine lv_iconst (v := (2 : Int32)) hx hb dX11_disk_15 (by decide) ?_
      refine lv_icmp_ne (tgt := 37) hx hb dX11_disk_16 (by decide) (fun c_16 => ?_) (fun c_16 => ?_)
      · have hF := hF.trans (if_neg c_16)
        have hO := hO.2 c_16
        exact k_m_disk_b37 g C st x1 H locs ls hI (lv_sub hl [0, 1] rfl) hO X hF
      · have hF := hF.trans (if_pos c_16)
        have hO := hO.1 c_16
        exact k_m_disk_b19 g C st x1 H locs ls hI (lv_sub hl [0, 1] rfl) hO X hF
  · have hF := hF.trans (if_neg c_4)
    have hO := hO.2 c_4
    exact cx_vret C hI hF dX11_disk_7
set_option maxHeartbeats 4000000 in
set_option maxRecDepth 100000 in
theorem c_m_disk (l : Launch) (g : Gm) (st : CS) (x1 : Int32) (hO : o_m_disk st x1) : Mv l yX11_disk wq_X11_disk rm_m_disk (gD g) vwCl (mty g) (mw g) (mz g) [.ref (gad g 0), .int x1] st (m_disk st x1) := by
  intro sz
  refine Met.ofW (cc := cX11_disk) (maxL := 2) (ret := none) (by decide) rfl ?_
  intro p e s m args below meth c s₁ B hml hv
  obtain ⟨rfl, hsz, hP, hK, hD0, hZ⟩ := hv
  subst hsz
  have hl := lv_entry ([.ref (gad g 0), .int x1]) (n := 2) (Nat.le_of_ble_eq_true rfl)
  rw [lg_entry_eq]
  generalize (lg_sl ([.ref (gad g 0), .int x1]) ++ List.replicate (2 - (lg_sl ([.ref (gad g 0), .int x1])).length) Slot.unset).toArray = ls at hl ⊢
  exact k_m_disk g ⟨B.exec, B.bytes, B.returns, hml, findClass_of_methodNamed B.named, atoms_spec (ws := wq_X11_disk) B.pre, B.notSynchronized, hK, fun q h => Or.inr h, hZ, mz_ok g⟩ st x1 _ _ ls ⟨hP, hD0.self, va_S.rf⟩ hl hO _ rfl
abbrev wq_X11_timer : List Cond := .code yX11_timer cX11_timer 4 none :: wAll
theorem yd_yX11_timer : yX11_timer.cls = RX11 ∧ yX11_timer.cls ≠ "java/lang/invoke/MethodHandle" ∧ yX11_timer.cls ≠ "java/lang/invoke/VarHandle" ∧ (parseMethodDescriptor yX11_timer.desc).map (fun d => d.parameters.length) = some 3 := by decide +kernel
abbrev rm_m_timer : Room := { frames := 0, cells := 0, slots := 0, locals := 0 }
def m_timer_b64 (st : CS) (x1 : Int32) (x2 : Int32) : CS := (if (x2 = (3 : Int32)) then (sA st 15 (upd (gA st 15) x1.toNatClampNeg ((gA st 14) x1.toNatClampNeg))) else st)
def o_m_timer_b64 (st : CS) (x1 : Int32) (x2 : Int32) : Prop := (((x2 = (3 : Int32)) → (vp_in x1 2 ∧ (vp_in x1 2 ∧ True))) ∧ (¬ (x2 = (3 : Int32)) → True))
set_option maxHeartbeats 4000000 in
set_option maxRecDepth 100000 in
theorem k_m_timer_b64 {p : Program} {l : Launch} {e : Env} {s : State} {m : MethodId} {args : Array Value} {below : List Frame} {meth : Method} {c : Code} {A : Nat → Prop} (g : Gm) (C : cX p s m args meth c A cX11_timer none 4 RX11 wq_X11_timer (gD g) vwCl (mty g) (mz g)) (st : CS) (x1 : Int32) (x2 : Int32) (H : Heap) (locs : List Loc) (ls : Array Slot) (hI : cI (gD g) vwCl (mw g) A s st H locs) (hl : lv_has ls 4 [(0, .ref (gad g 0)), (1, .int x1), (2, .int x2)]) (hO : o_m_timer_b64 st x1 x2) (X : CS) (hF : X = m_timer_b64 st x1 x2) : W p l e rm_m_timer s m args below meth c H locs 0 0 (MQ below (cQv (gD g) vwCl (mty g) (mw g) A X) args s 0 0 A) (F0 m 64 ls []) := by
  obtain ⟨hx, hb, hr, hml, hown, hts, hlocks, hK, hA, hZ, hzo⟩ := id C
  unfold m_timer_b64 at hF
  unfold o_m_timer_b64 at hO
  refine lv_iload_n hx hb dX11_timer_64 rfl (lv_at hl 2 rfl) ?_
  refine lv_iconst (v := (3 : Int32)) hx hb dX11_timer_65 (by decide) ?_
  refine lv_icmp_ne (tgt := 81) hx hb dX11_timer_66 (by decide) (fun c_66 => ?_) (fun c_66 => ?_)
  · have hF := hF.trans (if_neg c_66)
    have hO := hO.2 c_66
    exact cx_vret C hI hF dX11_timer_81
  · have hF := hF.trans (if_pos c_66)
    have hO := hO.1 c_66
    refine lv_aload_n hx hb dX11_timer_69 rfl (lv_at hl 0 rfl) ?_
    refine va_get (D := gD g) (ci := 11) (C := RX11) (T := TX11) (N := 50) (v := .ref (gad g 16)) hx hb hts (fun w h => List.mem_cons_of_mem _ (isX110 w h)) hown hK hI.1 0 rfl rfl 26 (by decide) (hts _ (List.mem_cons_of_mem _ mw200)) (fun _ h9 => h9) rfl dX11_timer_70 ?_
    refine lv_iload_n hx hb dX11_timer_73 rfl (lv_at hl 1 rfl) ?_
    refine lv_aload_n hx hb dX11_timer_74 rfl (lv_at hl 0 rfl) ?_
    refine va_get (D := gD g) (ci := 11) (C := RX11) (T := TX11) (N := 50) (v := .ref (gad g 15)) hx hb hts (fun w h => List.mem_cons_of_mem _ (isX110 w h)) hown hK hI.1 0 rfl rfl 25 (by decide) (hts _ (List.mem_cons_of_mem _ mw199)) (fun _ h9 => h9) rfl dX11_timer_75 ?_
    refine lv_iload_n hx hb dX11_timer_78 rfl (lv_at hl 1 rfl) ?_
    have hq_79_0 := hO.1
    have hO := hO.2
    refine va_iald (f := (gA st 14)) hx hb hK hI.1 15 14 rfl rfl hq_79_0 dX11_timer_79 ?_
    have hq_80_1 := hO.1
    have hO := hO.2
    refine va_iast (f := (gA st 15)) hx hb hK hI.1 hI.2.1 hI.2.2 16 15 rfl rfl hq_80_1 dX11_timer_80 (fun H locs hP hD hS => ?_)
    have hI : cI (gD g) vwCl (mw g) A s (sA st 15 (upd (gA st 15) x1.toNatClampNeg ((gA st 14) x1.toNatClampNeg))) H locs := ⟨hP, hD, hS⟩
    exact cx_vret C hI hF dX11_timer_81
def m_timer_b47 (st : CS) (x1 : Int32) (x2 : Int32) : CS := (if (x2 = (2 : Int32)) then (m_timer_b64 (sA st 14 (upd (gA st 14) x1.toNatClampNeg ((gA st 13) x1.toNatClampNeg))) x1 x2) else (m_timer_b64 st x1 x2))
def o_m_timer_b47 (st : CS) (x1 : Int32) (x2 : Int32) : Prop := (((x2 = (2 : Int32)) → (vp_in x1 2 ∧ (vp_in x1 2 ∧ (o_m_timer_b64 (sA st 14 (upd (gA st 14) x1.toNatClampNeg ((gA st 13) x1.toNatClampNeg))) x1 x2)))) ∧ (¬ (x2 = (2 : Int32)) → (o_m_timer_b64 st x1 x2)))
set_option maxHeartbeats 4000000 in
set_option maxRecDepth 100000 in
theorem k_m_timer_b47 {p : Program} {l : Launch} {e : Env} {s : State} {m : MethodId} {args : Array Value} {below : List Frame} {meth : Method} {c : Code} {A : Nat → Prop} (g : Gm) (C : cX p s m args meth c A cX11_timer none 4 RX11 wq_X11_timer (gD g) vwCl (mty g) (mz g)) (st : CS) (x1 : Int32) (x2 : Int32) (H : Heap) (locs : List Loc) (ls : Array Slot) (hI : cI (gD g) vwCl (mw g) A s st H locs) (hl : lv_has ls 4 [(0, .ref (gad g 0)), (1, .int x1), (2, .int x2)]) (hO : o_m_timer_b47 st x1 x2) (X : CS) (hF : X = m_timer_b47 st x1 x2) : W p l e rm_m_timer s m args below meth c H locs 0 0 (MQ below (cQv (gD g) vwCl (mty g) (mw g) A X) args s 0 0 A) (F0 m 47 ls []) := by
  obtain ⟨hx, hb, hr, hml, hown, hts, hlocks, hK, hA, hZ, hzo⟩ := id C
  unfold m_timer_b47 at hF
  unfold o_m_timer_b47 at hO
  refine lv_iload_n hx hb dX11_timer_47 rfl (lv_at hl 2 rfl) ?_
  refine lv_iconst (v := (2 : Int32)) hx hb dX11_timer_48 (by decide) ?_
  refine lv_icmp_ne (tgt := 64) hx hb dX11_timer_49 (by decide) (fun c_49 => ?_) (fun c_49 => ?_)
  · have hF := hF.trans (if_neg c_49)
    have hO := hO.2 c_49
    exact k_m_timer_b64 g C st x1 x2 H locs ls hI (lv_sub hl [0, 1, 2] rfl) hO X hF
  · have hF := hF.trans (if_pos c_49)
    have hO := hO.1 c_49
    refine lv_aload_n hx hb dX11_timer_52 rfl (lv_at hl 0 rfl) ?_
    refine va_get (D := gD g) (ci := 11) (C := RX11) (T := TX11) (N := 50) (v := .ref (gad g 15)) hx hb hts (fun w h => List.mem_cons_of_mem _ (isX110 w h)) hown hK hI.1 0 rfl rfl 25 (by decide) (hts _ (List.mem_cons_of_mem _ mw199)) (fun _ h9 => h9) rfl dX11_timer_53 ?_
    refine lv_iload_n hx hb dX11_timer_56 rfl (lv_at hl 1 rfl) ?_
    refine lv_aload_n hx hb dX11_timer_57 rfl (lv_at hl 0 rfl) ?_
    refine va_get (D := gD g) (ci := 11) (C := RX11) (T := TX11) (N := 50) (v := .ref (gad g 14)) hx hb hts (fun w h => List.mem_cons_of_mem _ (isX110 w h)) hown hK hI.1 0 rfl rfl 24 (by decide) (hts _ (List.mem_cons_of_mem _ mw198)) (fun _ h9 => h9) rfl dX11_timer_58 ?_
    refine lv_iload_n hx hb dX11_timer_61 rfl (lv_at hl 1 rfl) ?_
    have hq_62_0 := hO.1
    have hO := hO.2
    refine va_iald (f := (gA st 13)) hx hb hK hI.1 14 13 rfl rfl hq_62_0 dX11_timer_62 ?_
    have hq_63_1 := hO.1
    have hO := hO.2
    refine va_iast (f := (gA st 14)) hx hb hK hI.1 hI.2.1 hI.2.2 15 14 rfl rfl hq_63_1 dX11_timer_63 (fun H locs hP hD hS => ?_)
    have hI : cI (gD g) vwCl (mw g) A s (sA st 14 (upd (gA st 14) x1.toNatClampNeg ((gA st 13) x1.toNatClampNeg))) H locs := ⟨hP, hD, hS⟩
    exact k_m_timer_b64 g C (sA st 14 (upd (gA st 14) x1.toNatClampNeg ((gA st 13) x1.toNatClampNeg))) x1 x2 H locs ls hI (lv_sub hl [0, 1, 2] rfl) hO X hF
def m_timer_b21 (st : CS) (x1 : Int32) (x2 : Int32) (x3 : Int32) : CS := (if (x2 = (1 : Int32)) then (m_timer_b47 (sA st 13 (upd (gA st 13) x1.toNatClampNeg ((((gA st 13) x1.toNatClampNeg) &&& (255 : Int32)) ||| (x3 <<< ((8 : Int32) &&& 31))))) x1 x2) else (m_timer_b47 st x1 x2))
def o_m_timer_b21 (st : CS) (x1 : Int32) (x2 : Int32) (x3 : Int32) : Prop := (((x2 = (1 : Int32)) → (vp_in x1 2 ∧ (vp_in x1 2 ∧ (o_m_timer_b47 (sA st 13 (upd (gA st 13) x1.toNatClampNeg ((((gA st 13) x1.toNatClampNeg) &&& (255 : Int32)) ||| (x3 <<< ((8 : Int32) &&& 31))))) x1 x2)))) ∧ (¬ (x2 = (1 : Int32)) → (o_m_timer_b47 st x1 x2)))
set_option maxHeartbeats 4000000 in
set_option maxRecDepth 100000 in
theorem k_m_timer_b21 {p : Program} {l : Launch} {e : Env} {s : State} {m : MethodId} {args : Array Value} {below : List Frame} {meth : Method} {c : Code} {A : Nat → Prop} (g : Gm) (C : cX p s m args meth c A cX11_timer none 4 RX11 wq_X11_timer (gD g) vwCl (mty g) (mz g)) (st : CS) (x1 : Int32) (x2 : Int32) (x3 : Int32) (H : Heap) (locs : List Loc) (ls : Array Slot) (hI : cI (gD g) vwCl (mw g) A s st H locs) (hl : lv_has ls 4 [(0, .ref (gad g 0)), (1, .int x1), (2, .int x2), (3, .int x3)]) (hO : o_m_timer_b21 st x1 x2 x3) (X : CS) (hF : X = m_timer_b21 st x1 x2 x3) : W p l e rm_m_timer s m args below meth c H locs 0 0 (MQ below (cQv (gD g) vwCl (mty g) (mw g) A X) args s 0 0 A) (F0 m 21 ls []) := by
  obtain ⟨hx, hb, hr, hml, hown, hts, hlocks, hK, hA, hZ, hzo⟩ := id C
  unfold m_timer_b21 at hF
  unfold o_m_timer_b21 at hO
  refine lv_iload_n hx hb dX11_timer_21 rfl (lv_at hl 2 rfl) ?_
  refine lv_iconst (v := (1 : Int32)) hx hb dX11_timer_22 (by decide) ?_
  refine lv_icmp_ne (tgt := 47) hx hb dX11_timer_23 (by decide) (fun c_23 => ?_) (fun c_23 => ?_)
  · have hF := hF.trans (if_neg c_23)
    have hO := hO.2 c_23
    exact k_m_timer_b47 g C st x1 x2 H locs ls hI (lv_sub hl [0, 1, 2] rfl) hO X hF
  · have hF := hF.trans (if_pos c_23)
    have hO := hO.1 c_23
    refine lv_aload_n hx hb dX11_timer_26 rfl (lv_at hl 0 rfl) ?_
    refine va_get (D := gD g) (ci := 11) (C := RX11) (T := TX11) (N := 50) (v := .ref (gad g 14)) hx hb hts (fun w h => List.mem_cons_of_mem _ (isX110 w h)) hown hK hI.1 0 rfl rfl 24 (by decide) (hts _ (List.mem_cons_of_mem _ mw198)) (fun _ h9 => h9) rfl dX11_timer_27 ?_
    refine lv_iload_n hx hb dX11_timer_30 rfl (lv_at hl 1 rfl) ?_
    refine lv_aload_n hx hb dX11_timer_31 rfl (lv_at hl 0 rfl) ?_
    refine va_get (D := gD g) (ci := 11) (C := RX11) (T := TX11) (N := 50) (v := .ref (gad g 14)) hx hb hts (fun w h => List.mem_cons_of_mem _ (isX110 w h)) hown hK hI.1 0 rfl rfl 24 (by decide) (hts _ (List.mem_cons_of_mem _ mw198)) (fun _ h9 => h9) rfl dX11_timer_32 ?_
    refine lv_iload_n hx hb dX11_timer_35 rfl (lv_at hl 1 rfl) ?_
    have hq_36_0 := hO.1
    have hO := hO.2
    refine va_iald (f := (gA st 13)) hx hb hK hI.1 14 13 rfl rfl hq_36_0 dX11_timer_36 ?_
    refine lv_sipush (v := (255 : Int32)) hx hb dX11_timer_37 (by decide) ?_
    refine lv_iand hx hb dX11_timer_40 ?_
    refine lv_iload_n hx hb dX11_timer_41 rfl (lv_at hl 3 rfl) ?_
    refine lv_bipush (v := (8 : Int32)) hx hb dX11_timer_42 (by decide) ?_
    refine lv_ishl hx hb dX11_timer_44 ?_
    refine lv_ior hx hb dX11_timer_45 ?_
    have hq_46_1 := hO.1
    have hO := hO.2
    refine va_iast (f := (gA st 13)) hx hb hK hI.1 hI.2.1 hI.2.2 14 13 rfl rfl hq_46_1 dX11_timer_46 (fun H locs hP hD hS => ?_)
    have hI : cI (gD g) vwCl (mw g) A s (sA st 13 (upd (gA st 13) x1.toNatClampNeg ((((gA st 13) x1.toNatClampNeg) &&& (255 : Int32)) ||| (x3 <<< ((8 : Int32) &&& 31))))) H locs := ⟨hP, hD, hS⟩
    exact k_m_timer_b47 g C (sA st 13 (upd (gA st 13) x1.toNatClampNeg ((((gA st 13) x1.toNatClampNeg) &&& (255 : Int32)) ||| (x3 <<< ((8 : Int32) &&& 31))))) x1 x2 H locs ls hI (lv_sub hl [0, 1, 2] rfl) hO X hF
def m_timer (st : CS) (x1 : Int32) (x2 : Int32) (x3 : Int32) : CS := (if (x2 = 0) then (m_timer_b21 (sA st 13 (upd (gA st 13) x1.toNatClampNeg ((((gA st 13) x1.toNatClampNeg) &&& (65280 : Int32)) ||| x3))) x1 x2 x3) else (m_timer_b21 st x1 x2 x3))
def o_m_timer (st : CS) (x1 : Int32) (x2 : Int32) (x3 : Int32) : Prop := (((x2 = 0) → (vp_in x1 2 ∧ (vp_in x1 2 ∧ (o_m_timer_b21 (sA st 13 (upd (gA st 13) x1.toNatClampNeg ((((gA st 13) x1.toNatClampNeg) &&& (65280 : Int32)) ||| x3))) x1 x2 x3)))) ∧ (¬ (x2 = 0) → (o_m_timer_b21 st x1 x2 x3)))
set_option maxHeartbeats 4000000 in
set_option maxRecDepth 100000 in
theorem k_m_timer {p : Program} {l : Launch} {e : Env} {s : State} {m : MethodId} {args : Array Value} {below : List Frame} {meth : Method} {c : Code} {A : Nat → Prop} (g : Gm) (C : cX p s m args meth c A cX11_timer none 4 RX11 wq_X11_timer (gD g) vwCl (mty g) (mz g)) (st : CS) (x1 : Int32) (x2 : Int32) (x3 : Int32) (H : Heap) (locs : List Loc) (ls : Array Slot) (hI : cI (gD g) vwCl (mw g) A s st H locs) (hl : lv_has ls 4 [(0, .ref (gad g 0)), (1, .int x1), (2, .int x2), (3, .int x3)]) (hO : o_m_timer st x1 x2 x3) (X : CS) (hF : X = m_timer st x1 x2 x3) : W p l e rm_m_timer s m args below meth c H locs 0 0 (MQ below (cQv (gD g) vwCl (mty g) (mw g) A X) args s 0 0 A) (F0 m 0 ls []) := by
  obtain ⟨hx, hb, hr, hml, hown, hts, hlocks, hK, hA, hZ, hzo⟩ := id C
  unfold m_timer at hF
  unfold o_m_timer at hO
  refine lv_iload_n hx hb dX11_timer_0 rfl (lv_at hl 2 rfl) ?_
  refine lv_if_ne (tgt := 21) hx hb dX11_timer_1 (by decide) (fun c_1 => ?_) (fun c_1 => ?_)
  · have hF := hF.trans (if_neg c_1)
    have hO := hO.2 c_1
    exact k_m_timer_b21 g C st x1 x2 x3 H locs ls hI (lv_sub hl [0, 1, 2, 3] rfl) hO X hF
  · have hF := hF.trans (if_pos c_1)
    have hO := hO.1 c_1
    refine lv_aload_n hx hb dX11_timer_4 rfl (lv_at hl 0 rfl) ?_
    refine va_get (D := gD g) (ci := 11) (C := RX11) (T := TX11) (N := 50) (v := .ref (gad g 14)) hx hb hts (fun w h => List.mem_cons_of_mem _ (isX110 w h)) hown hK hI.1 0 rfl rfl 24 (by decide) (hts _ (List.mem_cons_of_mem _ mw198)) (fun _ h9 => h9) rfl dX11_timer_5 ?_
    refine lv_iload_n hx hb dX11_timer_8 rfl (lv_at hl 1 rfl) ?_
    refine lv_aload_n hx hb dX11_timer_9 rfl (lv_at hl 0 rfl) ?_
    refine va_get (D := gD g) (ci := 11) (C := RX11) (T := TX11) (N := 50) (v := .ref (gad g 14)) hx hb hts (fun w h => List.mem_cons_of_mem _ (isX110 w h)) hown hK hI.1 0 rfl rfl 24 (by decide) (hts _ (List.mem_cons_of_mem _ mw198)) (fun _ h9 => h9) rfl dX11_timer_10 ?_
    refine lv_iload_n hx hb dX11_timer_13 rfl (lv_at hl 1 rfl) ?_
    have hq_14_0 := hO.1
    have hO := hO.2
    refine va_iald (f := (gA st 13)) hx hb hK hI.1 14 13 rfl rfl hq_14_0 dX11_timer_14 ?_
    refine lv_ldc (v := (65280 : Int32)) hx hb hown (hts _ (List.mem_cons_of_mem _ mw911)) dX11_timer_15 ?_
    refine lv_iand hx hb dX11_timer_17 ?_
    refine lv_iload_n hx hb dX11_timer_18 rfl (lv_at hl 3 rfl) ?_
    refine lv_ior hx hb dX11_timer_19 ?_
    have hq_20_1 := hO.1
    have hO := hO.2
    refine va_iast (f := (gA st 13)) hx hb hK hI.1 hI.2.1 hI.2.2 14 13 rfl rfl hq_20_1 dX11_timer_20 (fun H locs hP hD hS => ?_)
    have hI : cI (gD g) vwCl (mw g) A s (sA st 13 (upd (gA st 13) x1.toNatClampNeg ((((gA st 13) x1.toNatClampNeg) &&& (65280 : Int32)) ||| x3))) H locs := ⟨hP, hD, hS⟩
    exact k_m_timer_b21 g C (sA st 13 (upd (gA st 13) x1.toNatClampNeg ((((gA st 13) x1.toNatClampNeg) &&& (65280 : Int32)) ||| x3))) x1 x2 x3 H locs ls hI (lv_sub hl [0, 1, 2, 3] rfl) hO X hF
set_option maxHeartbeats 4000000 in
set_option maxRecDepth 100000 in
theorem c_m_timer (l : Launch) (g : Gm) (st : CS) (x1 : Int32) (x2 : Int32) (x3 : Int32) (hO : o_m_timer st x1 x2 x3) : Mv l yX11_timer wq_X11_timer rm_m_timer (gD g) vwCl (mty g) (mw g) (mz g) [.ref (gad g 0), .int x1, .int x2, .int x3] st (m_timer st x1 x2 x3) := by
  intro sz
  refine Met.ofW (cc := cX11_timer) (maxL := 4) (ret := none) (by decide) rfl ?_
  intro p e s m args below meth c s₁ B hml hv
  obtain ⟨rfl, hsz, hP, hK, hD0, hZ⟩ := hv
  subst hsz
  have hl := lv_entry ([.ref (gad g 0), .int x1, .int x2, .int x3]) (n := 4) (Nat.le_of_ble_eq_true rfl)
  rw [lg_entry_eq]
  generalize (lg_sl ([.ref (gad g 0), .int x1, .int x2, .int x3]) ++ List.replicate (4 - (lg_sl ([.ref (gad g 0), .int x1, .int x2, .int x3])).length) Slot.unset).toArray = ls at hl ⊢
  exact k_m_timer g ⟨B.exec, B.bytes, B.returns, hml, findClass_of_methodNamed B.named, atoms_spec (ws := wq_X11_timer) B.pre, B.notSynchronized, hK, fun q h => Or.inr h, hZ, mz_ok g⟩ st x1 x2 x3 _ _ ls ⟨hP, hD0.self, va_S.rf⟩ hl hO _ rfl
abbrev wq_X11_writeDevice : List Cond := .code yX11_writeDevice cX11_writeDevice 4 none :: wAll
theorem yd_yX11_writeDevice : yX11_writeDevice.cls = RX11 ∧ yX11_writeDevice.cls ≠ "java/lang/invoke/MethodHandle" ∧ yX11_writeDevice.cls ≠ "java/lang/invoke/VarHandle" ∧ (parseMethodDescriptor yX11_writeDevice.desc).map (fun d => d.parameters.length) = some 2 := by decide +kernel
abbrev rm_m_writeDevice : Room := { frames := 1, cells := 0, slots := 0, locals := 23 }
def m_writeDevice_b203 (st : CS) (x2 : Int32) (x3 : Int32) : CS := (if (x3 = (14 : Int32)) then (sI st 12 x2) else st)
set_option maxHeartbeats 4000000 in
set_option maxRecDepth 100000 in
theorem k_m_writeDevice_b203 {p : Program} {l : Launch} {e : Env} {s : State} {m : MethodId} {args : Array Value} {below : List Frame} {meth : Method} {c : Code} {A : Nat → Prop} (g : Gm) (C : cX p s m args meth c A cX11_writeDevice none 4 RX11 wq_X11_writeDevice (gD g) vwCl (mty g) (mz g)) (st : CS) (x2 : Int32) (x3 : Int32) (H : Heap) (locs : List Loc) (ls : Array Slot) (hI : cI (gD g) vwCl (mw g) A s st H locs) (hl : lv_has ls 4 [(0, .ref (gad g 0)), (2, .int x2), (3, .int x3)]) (X : CS) (hF : X = m_writeDevice_b203 st x2 x3) : W p l e rm_m_writeDevice s m args below meth c H locs 0 0 (MQ below (cQv (gD g) vwCl (mty g) (mw g) A X) args s 0 0 A) (F0 m 203 ls []) := by
  obtain ⟨hx, hb, hr, hml, hown, hts, hlocks, hK, hA, hZ, hzo⟩ := id C
  unfold m_writeDevice_b203 at hF
  refine lv_iload_n hx hb dX11_writeDevice_203 rfl (lv_at hl 2 rfl) ?_
  refine lv_bipush (v := (14 : Int32)) hx hb dX11_writeDevice_204 (by decide) ?_
  refine lv_icmp_ne (tgt := 214) hx hb dX11_writeDevice_206 (by decide) (fun c_206 => ?_) (fun c_206 => ?_)
  · have hF := hF.trans (if_neg c_206)
    exact cx_vret C hI hF dX11_writeDevice_214
  · have hF := hF.trans (if_pos c_206)
    refine lv_aload_n hx hb dX11_writeDevice_209 rfl (lv_at hl 0 rfl) ?_
    refine lv_iload_n hx hb dX11_writeDevice_210 rfl (lv_at hl 1 rfl) ?_
    refine va_put (D := gD g) (ci := 11) (C := RX11) (T := TX11) (N := 50) (v := .int x2) (ty := .int) hx hb hts (fun w h => List.mem_cons_of_mem _ (isX110 w h)) tyX11 tyX11_ok nmX11 hown hK hI.1 hI.2.1 hI.2.2 0 rfl rfl 29 (by decide) (hts _ (List.mem_cons_of_mem _ mw219)) (fun _ h9 => h9) rfl (by decide +kernel) rfl rfl (Nat.le_of_ble_eq_true rfl) dX11_writeDevice_211 (fun H locs hP hD hS => ?_)
    have hI : cI (gD g) vwCl (mw g) A s (sI st 12 x2) H locs := ⟨hP, hD, hS⟩
    exact cx_vret C hI hF dX11_writeDevice_214
def m_writeDevice_b192 (st : CS) (x2 : Int32) (x3 : Int32) : CS := (if (x3 = (10 : Int32)) then (m_writeDevice_b203 (sI st 11 x2) x2 x3) else (m_writeDevice_b203 st x2 x3))
set_option maxHeartbeats 4000000 in
set_option maxRecDepth 100000 in
theorem k_m_writeDevice_b192 {p : Program} {l : Launch} {e : Env} {s : State} {m : MethodId} {args : Array Value} {below : List Frame} {meth : Method} {c : Code} {A : Nat → Prop} (g : Gm) (C : cX p s m args meth c A cX11_writeDevice none 4 RX11 wq_X11_writeDevice (gD g) vwCl (mty g) (mz g)) (st : CS) (x2 : Int32) (x3 : Int32) (H : Heap) (locs : List Loc) (ls : Array Slot) (hI : cI (gD g) vwCl (mw g) A s st H locs) (hl : lv_has ls 4 [(0, .ref (gad g 0)), (2, .int x2), (3, .int x3)]) (X : CS) (hF : X = m_writeDevice_b192 st x2 x3) : W p l e rm_m_writeDevice s m args below meth c H locs 0 0 (MQ below (cQv (gD g) vwCl (mty g) (mw g) A X) args s 0 0 A) (F0 m 192 ls []) := by
  obtain ⟨hx, hb, hr, hml, hown, hts, hlocks, hK, hA, hZ, hzo⟩ := id C
  unfold m_writeDevice_b192 at hF
  refine lv_iload_n hx hb dX11_writeDevice_192 rfl (lv_at hl 2 rfl) ?_
  refine lv_bipush (v := (10 : Int32)) hx hb dX11_writeDevice_193 (by decide) ?_
  refine lv_icmp_ne (tgt := 203) hx hb dX11_writeDevice_195 (by decide) (fun c_195 => ?_) (fun c_195 => ?_)
  · have hF := hF.trans (if_neg c_195)
    exact k_m_writeDevice_b203 g C st x2 x3 H locs ls hI (lv_sub hl [0, 1, 2] rfl) X hF
  · have hF := hF.trans (if_pos c_195)
    refine lv_aload_n hx hb dX11_writeDevice_198 rfl (lv_at hl 0 rfl) ?_
    refine lv_iload_n hx hb dX11_writeDevice_199 rfl (lv_at hl 1 rfl) ?_
    refine va_put (D := gD g) (ci := 11) (C := RX11) (T := TX11) (N := 50) (v := .int x2) (ty := .int) hx hb hts (fun w h => List.mem_cons_of_mem _ (isX110 w h)) tyX11 tyX11_ok nmX11 hown hK hI.1 hI.2.1 hI.2.2 0 rfl rfl 28 (by decide) (hts _ (List.mem_cons_of_mem _ mw218)) (fun _ h9 => h9) rfl (by decide +kernel) rfl rfl (Nat.le_of_ble_eq_true rfl) dX11_writeDevice_200 (fun H locs hP hD hS => ?_)
    have hI : cI (gD g) vwCl (mw g) A s (sI st 11 x2) H locs := ⟨hP, hD, hS⟩
    exact k_m_writeDevice_b203 g C (sI st 11 x2) x2 x3 H locs ls hI (lv_sub hl [0, 1, 2] rfl) X hF
def m_writeDevice_b181 (st : CS) (x2 : Int32) (x3 : Int32) : CS := (if (x3 = (6 : Int32)) then (m_writeDevice_b192 (sI st 10 x2) x2 x3) else (m_writeDevice_b192 st x2 x3))
set_option maxHeartbeats 4000000 in
set_option maxRecDepth 100000 in
theorem k_m_writeDevice_b181 {p : Program} {l : Launch} {e : Env} {s : State} {m : MethodId} {args : Array Value} {below : List Frame} {meth : Method} {c : Code} {A : Nat → Prop} (g : Gm) (C : cX p s m args meth c A cX11_writeDevice none 4 RX11 wq_X11_writeDevice (gD g) vwCl (mty g) (mz g)) (st : CS) (x2 : Int32) (x3 : Int32) (H : Heap) (locs : List Loc) (ls : Array Slot) (hI : cI (gD g) vwCl (mw g) A s st H locs) (hl : lv_has ls 4 [(0, .ref (gad g 0)), (2, .int x2), (3, .int x3)]) (X : CS) (hF : X = m_writeDevice_b181 st x2 x3) : W p l e rm_m_writeDevice s m args below meth c H locs 0 0 (MQ below (cQv (gD g) vwCl (mty g) (mw g) A X) args s 0 0 A) (F0 m 181 ls []) := by
  obtain ⟨hx, hb, hr, hml, hown, hts, hlocks, hK, hA, hZ, hzo⟩ := id C
  unfold m_writeDevice_b181 at hF
  refine lv_iload_n hx hb dX11_writeDevice_181 rfl (lv_at hl 2 rfl) ?_
  refine lv_bipush (v := (6 : Int32)) hx hb dX11_writeDevice_182 (by decide) ?_
  refine lv_icmp_ne (tgt := 192) hx hb dX11_writeDevice_184 (by decide) (fun c_184 => ?_) (fun c_184 => ?_)
  · have hF := hF.trans (if_neg c_184)
    exact k_m_writeDevice_b192 g C st x2 x3 H locs ls hI (lv_sub hl [0, 1, 2] rfl) X hF
  · have hF := hF.trans (if_pos c_184)
    refine lv_aload_n hx hb dX11_writeDevice_187 rfl (lv_at hl 0 rfl) ?_
    refine lv_iload_n hx hb dX11_writeDevice_188 rfl (lv_at hl 1 rfl) ?_
    refine va_put (D := gD g) (ci := 11) (C := RX11) (T := TX11) (N := 50) (v := .int x2) (ty := .int) hx hb hts (fun w h => List.mem_cons_of_mem _ (isX110 w h)) tyX11 tyX11_ok nmX11 hown hK hI.1 hI.2.1 hI.2.2 0 rfl rfl 27 (by decide) (hts _ (List.mem_cons_of_mem _ mw217)) (fun _ h9 => h9) rfl (by decide +kernel) rfl rfl (Nat.le_of_ble_eq_true rfl) dX11_writeDevice_189 (fun H locs hP hD hS => ?_)
    have hI : cI (gD g) vwCl (mw g) A s (sI st 10 x2) H locs := ⟨hP, hD, hS⟩
    exact k_m_writeDevice_b192 g C (sI st 10 x2) x2 x3 H locs ls hI (lv_sub hl [0, 1, 2] rfl) X hF
def m_writeDevice_b180 (st : CS) (x2 : Int32) (x3 : Int32) (y1 : Int32) (y0 : Int32) : CS := (m_writeDevice_b181 (sA st 12 (upd (gA st 12) y1.toNatClampNeg y0)) x2 x3)
def o_m_writeDevice_b180 (st : CS) (x2 : Int32) (x3 : Int32) (y1 : Int32) (y0 : Int32) : Prop := (vp_in y1 2 ∧ True)
set_option maxHeartbeats 4000000 in
set_option maxRecDepth 100000 in
theorem k_m_writeDevice_b180 {p : Program} {l : Launch} {e : Env} {s : State} {m : MethodId} {args : Array Value} {below : List Frame} {meth : Method} {c : Code} {A : Nat → Prop} (g : Gm) (C : cX p s m args meth c A cX11_writeDevice none 4 RX11 wq_X11_writeDevice (gD g) vwCl (mty g) (mz g)) (st : CS) (x2 : Int32) (x3 : Int32) (y1 : Int32) (y0 : Int32) (H : Heap) (locs : List Loc) (ls : Array Slot) (hI : cI (gD g) vwCl (mw g) A s st H locs) (hl : lv_has ls 4 [(0, .ref (gad g 0)), (2, .int x2), (3, .int x3)]) (hO : o_m_writeDevice_b180 st x2 x3 y1 y0) (X : CS) (hF : X = m_writeDevice_b180 st x2 x3 y1 y0) : W p l e rm_m_writeDevice s m args below meth c H locs 0 0 (MQ below (cQv (gD g) vwCl (mty g) (mw g) A X) args s 0 0 A) (F0 m 180 ls [.int y0, .int y1, .ref (gad g 13)]) := by
  obtain ⟨hx, hb, hr, hml, hown, hts, hlocks, hK, hA, hZ, hzo⟩ := id C
  unfold m_writeDevice_b180 at hF
  unfold o_m_writeDevice_b180 at hO
  have hq_180_0 := hO.1
  have hO := hO.2
  refine va_iast (f := (gA st 12)) hx hb hK hI.1 hI.2.1 hI.2.2 13 12 rfl rfl hq_180_0 dX11_writeDevice_180 (fun H locs hP hD hS => ?_)
  have hI : cI (gD g) vwCl (mw g) A s (sA st 12 (upd (gA st 12) y1.toNatClampNeg y0)) H locs := ⟨hP, hD, hS⟩
  exact k_m_writeDevice_b181 g C (sA st 12 (upd (gA st 12) y1.toNatClampNeg y0)) x2 x3 H locs ls hI (lv_sub hl [0, 1, 2] rfl) X hF
def m_writeDevice_b155 (st : CS) (x2 : Int32) (x3 : Int32) : CS := (if (((x2 >>> ((6 : Int32) &&& 31)) &&& (1 : Int32)) = (1 : Int32)) then (m_writeDevice_b180 st x2 x3 (1 : Int32) (0 : Int32)) else (m_writeDevice_b180 st x2 x3 (1 : Int32) ((gA st 12) (1 : Int32).toNatClampNeg)))
def o_m_writeDevice_b155 (st : CS) (x2 : Int32) (x3 : Int32) : Prop := (((((x2 >>> ((6 : Int32) &&& 31)) &&& (1 : Int32)) = (1 : Int32)) → (o_m_writeDevice_b180 st x2 x3 (1 : Int32) (0 : Int32))) ∧ (¬ (((x2 >>> ((6 : Int32) &&& 31)) &&& (1 : Int32)) = (1 : Int32)) → (o_m_writeDevice_b180 st x2 x3 (1 : Int32) ((gA st 12) (1 : Int32).toNatClampNeg))))
set_option maxHeartbeats 4000000 in
set_option maxRecDepth 100000 in
theorem k_m_writeDevice_b155 {p : Program} {l : Launch} {e : Env} {s : State} {m : MethodId} {args : Array Value} {below : List Frame} {meth : Method} {c : Code} {A : Nat → Prop} (g : Gm) (C : cX p s m args meth c A cX11_writeDevice none 4 RX11 wq_X11_writeDevice (gD g) vwCl (mty g) (mz g)) (st : CS) (x2 : Int32) (x3 : Int32) (H : Heap) (locs : List Loc) (ls : Array Slot) (hI : cI (gD g) vwCl (mw g) A s st H locs) (hl : lv_has ls 4 [(0, .ref (gad g 0)), (2, .int x2), (3, .int x3)]) (hO : o_m_writeDevice_b155 st x2 x3) (X : CS) (hF : X = m_writeDevice_b155 st x2 x3) : W p l e rm_m_writeDevice s m args below meth c H locs 0 0 (MQ below (cQv (gD g) vwCl (mty g) (mw g) A X) args s 0 0 A) (F0 m 155 ls []) := by
  obtain ⟨hx, hb, hr, hml, hown, hts, hlocks, hK, hA, hZ, hzo⟩ := id C
  unfold m_writeDevice_b155 at hF
  unfold o_m_writeDevice_b155 at hO
  refine lv_aload_n hx hb dX11_writeDevice_155 rfl (lv_at hl 0 rfl) ?_
  refine va_get (D := gD g) (ci := 11) (C := RX11) (T := TX11) (N := 50) (v := .ref (gad g 13)) hx hb hts (fun w h => List.mem_cons_of_mem _ (isX110 w h)) hown hK hI.1 0 rfl rfl 23 (by decide) (hts _ (List.mem_cons_of_mem _ mw197)) (fun _ h9 => h9) rfl dX11_writeDevice_156 ?_
  refine lv_iconst (v := (1 : Int32)) hx hb dX11_writeDevice_159 (by decide) ?_
  refine lv_iload_n hx hb dX11_writeDevice_160 rfl (lv_at hl 1 rfl) ?_
  refine lv_bipush (v := (6 : Int32)) hx hb dX11_writeDevice_161 (by decide) ?_
  refine lv_ishr hx hb dX11_writeDevice_163 ?_
  refine lv_iconst (v := (1 : Int32)) hx hb dX11_writeDevice_164 (by decide) ?_
  refine lv_iand hx hb dX11_writeDevice_165 ?_
  refine lv_iconst (v := (1 : Int32)) hx hb dX11_writeDevice_166 (by decide) ?_
  refine lv_icmp_ne (tgt := 174) hx hb dX11_writeDevice_167 (by decide) (fun c_167 => ?_) (fun c_167 => ?_)
  · have hF := hF.trans (if_neg c_167)
    have hO := hO.2 c_167
    refine lv_aload_n hx hb dX11_writeDevice_174 rfl (lv_at hl 0 rfl) ?_
    refine va_get (D := gD g) (ci := 11) (C := RX11) (T := TX11) (N := 50) (v := .ref (gad g 13)) hx hb hts (fun w h => List.mem_cons_of_mem _ (isX110 w h)) hown hK hI.1 0 rfl rfl 23 (by decide) (hts _ (List.mem_cons_of_mem _ mw197)) (fun _ h9 => h9) rfl dX11_writeDevice_175 ?_
    refine lv_iconst (v := (1 : Int32)) hx hb dX11_writeDevice_178 (by decide) ?_
    refine va_iald (f := (gA st 12)) hx hb hK hI.1 13 12 rfl rfl (by unfold vp_in; decide) dX11_writeDevice_179 ?_
    exact k_m_writeDevice_b180 g C st x2 x3 (1 : Int32) ((gA st 12) (1 : Int32).toNatClampNeg) H locs ls hI (lv_sub hl [0, 1, 2] rfl) hO X hF
  · have hF := hF.trans (if_pos c_167)
    have hO := hO.1 c_167
    refine lv_iconst (v := (0 : Int32)) hx hb dX11_writeDevice_170 (by decide) ?_
    refine lv_goto (tgt := 180) hx hb dX11_writeDevice_171 (by decide) ?_
    exact k_m_writeDevice_b180 g C st x2 x3 (1 : Int32) (0 : Int32) H locs ls hI (lv_sub hl [0, 1, 2] rfl) hO X hF
def m_writeDevice_b154 (st : CS) (x2 : Int32) (x3 : Int32) (y1 : Int32) (y0 : Int32) : CS := (m_writeDevice_b155 (sA st 12 (upd (gA st 12) y1.toNatClampNeg y0)) x2 x3)
def o_m_writeDevice_b154 (st : CS) (x2 : Int32) (x3 : Int32) (y1 : Int32) (y0 : Int32) : Prop := (vp_in y1 2 ∧ (o_m_writeDevice_b155 (sA st 12 (upd (gA st 12) y1.toNatClampNeg y0)) x2 x3))
set_option maxHeartbeats 4000000 in
set_option maxRecDepth 100000 in
theorem k_m_writeDevice_b154 {p : Program} {l : Launch} {e : Env} {s : State} {m : MethodId} {args : Array Value} {below : List Frame} {meth : Method} {c : Code} {A : Nat → Prop} (g : Gm) (C : cX p s m args meth c A cX11_writeDevice none 4 RX11 wq_X11_writeDevice (gD g) vwCl (mty g) (mz g)) (st : CS) (x2 : Int32) (x3 : Int32) (y1 : Int32) (y0 : Int32) (H : Heap) (locs : List Loc) (ls : Array Slot) (hI : cI (gD g) vwCl (mw g) A s st H locs) (hl : lv_has ls 4 [(0, .ref (gad g 0)), (2, .int x2), (3, .int x3)]) (hO : o_m_writeDevice_b154 st x2 x3 y1 y0) (X : CS) (hF : X = m_writeDevice_b154 st x2 x3 y1 y0) : W p l e rm_m_writeDevice s m args below meth c H locs 0 0 (MQ below (cQv (gD g) vwCl (mty g) (mw g) A X) args s 0 0 A) (F0 m 154 ls [.int y0, .int y1, .ref (gad g 13)]) := by
  obtain ⟨hx, hb, hr, hml, hown, hts, hlocks, hK, hA, hZ, hzo⟩ := id C
  unfold m_writeDevice_b154 at hF
  unfold o_m_writeDevice_b154 at hO
  have hq_154_0 := hO.1
  have hO := hO.2
  refine va_iast (f := (gA st 12)) hx hb hK hI.1 hI.2.1 hI.2.2 13 12 rfl rfl hq_154_0 dX11_writeDevice_154 (fun H locs hP hD hS => ?_)
  have hI : cI (gD g) vwCl (mw g) A s (sA st 12 (upd (gA st 12) y1.toNatClampNeg y0)) H locs := ⟨hP, hD, hS⟩
  exact k_m_writeDevice_b155 g C (sA st 12 (upd (gA st 12) y1.toNatClampNeg y0)) x2 x3 H locs ls hI (lv_sub hl [0, 1, 2] rfl) hO X hF
def m_writeDevice_b127 (st : CS) (x2 : Int32) (x3 : Int32) (y0 : Int32) : CS := (if (((x2 >>> ((5 : Int32) &&& 31)) &&& (1 : Int32)) = (1 : Int32)) then (m_writeDevice_b154 (sI st 9 y0) x2 x3 (0 : Int32) (0 : Int32)) else (m_writeDevice_b154 (sI st 9 y0) x2 x3 (0 : Int32) ((gA st 12) (0 : Int32).toNatClampNeg)))
def o_m_writeDevice_b127 (st : CS) (x2 : Int32) (x3 : Int32) (y0 : Int32) : Prop := (((((x2 >>> ((5 : Int32) &&& 31)) &&& (1 : Int32)) = (1 : Int32)) → (o_m_writeDevice_b154 (sI st 9 y0) x2 x3 (0 : Int32) (0 : Int32))) ∧ (¬ (((x2 >>> ((5 : Int32) &&& 31)) &&& (1 : Int32)) = (1 : Int32)) → (o_m_writeDevice_b154 (sI st 9 y0) x2 x3 (0 : Int32) ((gA st 12) (0 : Int32).toNatClampNeg))))
set_option maxHeartbeats 4000000 in
set_option maxRecDepth 100000 in
theorem k_m_writeDevice_b127 {p : Program} {l : Launch} {e : Env} {s : State} {m : MethodId} {args : Array Value} {below : List Frame} {meth : Method} {c : Code} {A : Nat → Prop} (g : Gm) (C : cX p s m args meth c A cX11_writeDevice none 4 RX11 wq_X11_writeDevice (gD g) vwCl (mty g) (mz g)) (st : CS) (x2 : Int32) (x3 : Int32) (y0 : Int32) (H : Heap) (locs : List Loc) (ls : Array Slot) (hI : cI (gD g) vwCl (mw g) A s st H locs) (hl : lv_has ls 4 [(0, .ref (gad g 0)), (2, .int x2), (3, .int x3)]) (hO : o_m_writeDevice_b127 st x2 x3 y0) (X : CS) (hF : X = m_writeDevice_b127 st x2 x3 y0) : W p l e rm_m_writeDevice s m args below meth c H locs 0 0 (MQ below (cQv (gD g) vwCl (mty g) (mw g) A X) args s 0 0 A) (F0 m 127 ls [.int y0, .ref (gad g 0)]) := by
  obtain ⟨hx, hb, hr, hml, hown, hts, hlocks, hK, hA, hZ, hzo⟩ := id C
  unfold m_writeDevice_b127 at hF
  unfold o_m_writeDevice_b127 at hO
  refine va_put (D := gD g) (ci := 11) (C := RX11) (T := TX11) (N := 50) (v := .int y0) (ty := .int) hx hb hts (fun w h => List.mem_cons_of_mem _ (isX110 w h)) tyX11 tyX11_ok nmX11 hown hK hI.1 hI.2.1 hI.2.2 0 rfl rfl 22 (by decide) (hts _ (List.mem_cons_of_mem _ mw216)) (fun _ h9 => h9) rfl (by decide +kernel) rfl rfl (Nat.le_of_ble_eq_true rfl) dX11_writeDevice_127 (fun H locs hP hD hS => ?_)
  have hI : cI (gD g) vwCl (mw g) A s (sI st 9 y0) H locs := ⟨hP, hD, hS⟩
  refine lv_aload_n hx hb dX11_writeDevice_130 rfl (lv_at hl 0 rfl) ?_
  refine va_get (D := gD g) (ci := 11) (C := RX11) (T := TX11) (N := 50) (v := .ref (gad g 13)) hx hb hts (fun w h => List.mem_cons_of_mem _ (isX110 w h)) hown hK hI.1 0 rfl rfl 23 (by decide) (hts _ (List.mem_cons_of_mem _ mw197)) (fun _ h9 => h9) rfl dX11_writeDevice_131 ?_
  refine lv_iconst (v := (0 : Int32)) hx hb dX11_writeDevice_134 (by decide) ?_
  refine lv_iload_n hx hb dX11_writeDevice_135 rfl (lv_at hl 1 rfl) ?_
  refine lv_iconst (v := (5 : Int32)) hx hb dX11_writeDevice_136 (by decide) ?_
  refine lv_ishr hx hb dX11_writeDevice_137 ?_
  refine lv_iconst (v := (1 : Int32)) hx hb dX11_writeDevice_138 (by decide) ?_
  refine lv_iand hx hb dX11_writeDevice_139 ?_
  refine lv_iconst (v := (1 : Int32)) hx hb dX11_writeDevice_140 (by decide) ?_
  refine lv_icmp_ne (tgt := 148) hx hb dX11_writeDevice_141 (by decide) (fun c_141 => ?_) (fun c_141 => ?_)
  · have hF := hF.trans (if_neg c_141)
    have hO := hO.2 c_141
    refine lv_aload_n hx hb dX11_writeDevice_148 rfl (lv_at hl 0 rfl) ?_
    refine va_get (D := gD g) (ci := 11) (C := RX11) (T := TX11) (N := 50) (v := .ref (gad g 13)) hx hb hts (fun w h => List.mem_cons_of_mem _ (isX110 w h)) hown hK hI.1 0 rfl rfl 23 (by decide) (hts _ (List.mem_cons_of_mem _ mw197)) (fun _ h9 => h9) rfl dX11_writeDevice_149 ?_
    refine lv_iconst (v := (0 : Int32)) hx hb dX11_writeDevice_152 (by decide) ?_
    refine va_iald (f := (gA st 12)) hx hb hK hI.1 13 12 rfl rfl (by unfold vp_in; decide) dX11_writeDevice_153 ?_
    exact k_m_writeDevice_b154 g C (sI st 9 y0) x2 x3 (0 : Int32) ((gA st 12) (0 : Int32).toNatClampNeg) H locs ls hI (lv_sub hl [0, 1, 2] rfl) hO X hF
  · have hF := hF.trans (if_pos c_141)
    have hO := hO.1 c_141
    refine lv_iconst (v := (0 : Int32)) hx hb dX11_writeDevice_144 (by decide) ?_
    refine lv_goto (tgt := 154) hx hb dX11_writeDevice_145 (by decide) ?_
    exact k_m_writeDevice_b154 g C (sI st 9 y0) x2 x3 (0 : Int32) (0 : Int32) H locs ls hI (lv_sub hl [0, 1, 2] rfl) hO X hF
def m_writeDevice_b104 (st : CS) (x2 : Int32) (x3 : Int32) : CS := (if (x3 = (5 : Int32)) then (if (((x2 >>> ((3 : Int32) &&& 31)) &&& (1 : Int32)) = (1 : Int32)) then (m_writeDevice_b127 st x2 x3 (0 : Int32)) else (m_writeDevice_b127 st x2 x3 (gI st 9))) else (m_writeDevice_b181 st x2 x3))
def o_m_writeDevice_b104 (st : CS) (x2 : Int32) (x3 : Int32) : Prop := (((x3 = (5 : Int32)) → (((((x2 >>> ((3 : Int32) &&& 31)) &&& (1 : Int32)) = (1 : Int32)) → (o_m_writeDevice_b127 st x2 x3 (0 : Int32))) ∧ (¬ (((x2 >>> ((3 : Int32) &&& 31)) &&& (1 : Int32)) = (1 : Int32)) → (o_m_writeDevice_b127 st x2 x3 (gI st 9))))) ∧ (¬ (x3 = (5 : Int32)) → True))
set_option maxHeartbeats 4000000 in
set_option maxRecDepth 100000 in
theorem k_m_writeDevice_b104 {p : Program} {l : Launch} {e : Env} {s : State} {m : MethodId} {args : Array Value} {below : List Frame} {meth : Method} {c : Code} {A : Nat → Prop} (g : Gm) (C : cX p s m args meth c A cX11_writeDevice none 4 RX11 wq_X11_writeDevice (gD g) vwCl (mty g) (mz g)) (st : CS) (x2 : Int32) (x3 : Int32) (H : Heap) (locs : List Loc) (ls : Array Slot) (hI : cI (gD g) vwCl (mw g) A s st H locs) (hl : lv_has ls 4 [(0, .ref (gad g 0)), (2, .int x2), (3, .int x3)]) (hO : o_m_writeDevice_b104 st x2 x3) (X : CS) (hF : X = m_writeDevice_b104 st x2 x3) : W p l e rm_m_writeDevice s m args below meth c H locs 0 0 (MQ below (cQv (gD g) vwCl (mty g) (mw g) A X) args s 0 0 A) (F0 m 104 ls []) := by
  obtain ⟨hx, hb, hr, hml, hown, hts, hlocks, hK, hA, hZ, hzo⟩ := id C
  unfold m_writeDevice_b104 at hF
  unfold o_m_writeDevice_b104 at hO
  refine lv_iload_n hx hb dX11_writeDevice_104 rfl (lv_at hl 2 rfl) ?_
  refine lv_iconst (v := (5 : Int32)) hx hb dX11_writeDevice_105 (by decide) ?_
  refine lv_icmp_ne (tgt := 181) hx hb dX11_writeDevice_106 (by decide) (fun c_106 => ?_) (fun c_106 => ?_)
  · have hF := hF.trans (if_neg c_106)
    have hO := hO.2 c_106
    exact k_m_writeDevice_b181 g C st x2 x3 H locs ls hI (lv_sub hl [0, 1, 2] rfl) X hF
  · have hF := hF.trans (if_pos c_106)
    have hO := hO.1 c_106
    refine lv_aload_n hx hb dX11_writeDevice_109 rfl (lv_at hl 0 rfl) ?_
    refine lv_iload_n hx hb dX11_writeDevice_110 rfl (lv_at hl 1 rfl) ?_
    refine lv_iconst (v := (3 : Int32)) hx hb dX11_writeDevice_111 (by decide) ?_
    refine lv_ishr hx hb dX11_writeDevice_112 ?_
    refine lv_iconst (v := (1 : Int32)) hx hb dX11_writeDevice_113 (by decide) ?_
    refine lv_iand hx hb dX11_writeDevice_114 ?_
    refine lv_iconst (v := (1 : Int32)) hx hb dX11_writeDevice_115 (by decide) ?_
    refine lv_icmp_ne (tgt := 123) hx hb dX11_writeDevice_116 (by decide) (fun c_116 => ?_) (fun c_116 => ?_)
    · have hF := hF.trans (if_neg c_116)
      have hO := hO.2 c_116
      refine lv_aload_n hx hb dX11_writeDevice_123 rfl (lv_at hl 0 rfl) ?_
      refine va_get (D := gD g) (ci := 11) (C := RX11) (T := TX11) (N := 50) (v := .int (gI st 9)) hx hb hts (fun w h => List.mem_cons_of_mem _ (isX110 w h)) hown hK hI.1 0 rfl rfl 22 (by decide) (hts _ (List.mem_cons_of_mem _ mw216)) (fun _ h9 => h9) rfl dX11_writeDevice_124 ?_
      exact k_m_writeDevice_b127 g C st x2 x3 (gI st 9) H locs ls hI (lv_sub hl [0, 1, 2] rfl) hO X hF
    · have hF := hF.trans (if_pos c_116)
      have hO := hO.1 c_116
      refine lv_iconst (v := (0 : Int32)) hx hb dX11_writeDevice_119 (by decide) ?_
      refine lv_goto (tgt := 127) hx hb dX11_writeDevice_120 (by decide) ?_
      exact k_m_writeDevice_b127 g C st x2 x3 (0 : Int32) H locs ls hI (lv_sub hl [0, 1, 2] rfl) hO X hF
def m_writeDevice_b87 (st : CS) (x2 : Int32) (x3 : Int32) : CS := (m_writeDevice_b104 (sL (sI st 15 (256 : Int32)) 1 ((gL st 1) + (1 : Int64))) x2 x3)
def o_m_writeDevice_b87 (st : CS) (x2 : Int32) (x3 : Int32) : Prop := (o_m_writeDevice_b104 (sL (sI st 15 (256 : Int32)) 1 ((gL st 1) + (1 : Int64))) x2 x3)
set_option maxHeartbeats 4000000 in
set_option maxRecDepth 100000 in
theorem k_m_writeDevice_b87 {p : Program} {l : Launch} {e : Env} {s : State} {m : MethodId} {args : Array Value} {below : List Frame} {meth : Method} {c : Code} {A : Nat → Prop} (g : Gm) (C : cX p s m args meth c A cX11_writeDevice none 4 RX11 wq_X11_writeDevice (gD g) vwCl (mty g) (mz g)) (st : CS) (x2 : Int32) (x3 : Int32) (H : Heap) (locs : List Loc) (ls : Array Slot) (hI : cI (gD g) vwCl (mw g) A s st H locs) (hl : lv_has ls 4 [(0, .ref (gad g 0)), (2, .int x2), (3, .int x3)]) (hO : o_m_writeDevice_b87 st x2 x3) (X : CS) (hF : X = m_writeDevice_b87 st x2 x3) : W p l e rm_m_writeDevice s m args below meth c H locs 0 0 (MQ below (cQv (gD g) vwCl (mty g) (mw g) A X) args s 0 0 A) (F0 m 87 ls []) := by
  obtain ⟨hx, hb, hr, hml, hown, hts, hlocks, hK, hA, hZ, hzo⟩ := id C
  unfold m_writeDevice_b87 at hF
  unfold o_m_writeDevice_b87 at hO
  refine lv_aload_n hx hb dX11_writeDevice_87 rfl (lv_at hl 0 rfl) ?_
  refine lv_dup hx hb dX11_writeDevice_88 rfl ?_
  refine va_get (D := gD g) (ci := 11) (C := RX11) (T := TX11) (N := 50) (v := .long (gL st 1)) hx hb hts (fun w h => List.mem_cons_of_mem _ (isX110 w h)) hown hK hI.1 0 rfl rfl 42 (by decide) (hts _ (List.mem_cons_of_mem _ mw899)) (fun _ h9 => h9) rfl dX11_writeDevice_89 ?_
  refine lv_lconst (v := (1 : Int64)) hx hb dX11_writeDevice_92 (by decide) ?_
  refine lv_ladd hx hb dX11_writeDevice_93 ?_
  refine va_put (D := gD g) (ci := 11) (C := RX11) (T := TX11) (N := 50) (v := .long ((gL st 1) + (1 : Int64))) (ty := .long) hx hb hts (fun w h => List.mem_cons_of_mem _ (isX110 w h)) tyX11 tyX11_ok nmX11 hown hK hI.1 hI.2.1 hI.2.2 0 rfl rfl 42 (by decide) (hts _ (List.mem_cons_of_mem _ mw899)) (fun _ h9 => h9) rfl (by decide +kernel) rfl rfl (Nat.le_of_ble_eq_true rfl) dX11_writeDevice_94 (fun H locs hP hD hS => ?_)
  have hI : cI (gD g) vwCl (mw g) A s (sL st 1 ((gL st 1) + (1 : Int64))) H locs := ⟨hP, hD, hS⟩
  refine lv_aload_n hx hb dX11_writeDevice_97 rfl (lv_at hl 0 rfl) ?_
  refine lv_sipush (v := (256 : Int32)) hx hb dX11_writeDevice_98 (by decide) ?_
  refine va_put (D := gD g) (ci := 11) (C := RX11) (T := TX11) (N := 50) (v := .int (256 : Int32)) (ty := .int) hx hb hts (fun w h => List.mem_cons_of_mem _ (isX110 w h)) tyX11 tyX11_ok nmX11 hown hK hI.1 hI.2.1 hI.2.2 0 rfl rfl 32 (by decide) (hts _ (List.mem_cons_of_mem _ mw222)) (fun _ h9 => h9) rfl (by decide +kernel) rfl rfl (Nat.le_of_ble_eq_true rfl) dX11_writeDevice_101 (fun H locs hP hD hS => ?_)
  have hI : cI (gD g) vwCl (mw g) A s (sL (sI st 15 (256 : Int32)) 1 ((gL st 1) + (1 : Int64))) H locs := ⟨hP, hD, hS⟩
  exact k_m_writeDevice_b104 g C (sL (sI st 15 (256 : Int32)) 1 ((gL st 1) + (1 : Int64))) x2 x3 H locs ls hI (lv_sub hl [0, 1, 2] rfl) hO X hF
def m_writeDevice_b66 (st : CS) (x2 : Int32) (x3 : Int32) : CS := (if (x3 = (1 : Int32)) then (m_writeDevice_b87 (sA st 16 (upd (gA st 16) (((gL st 1) - (gL st 1) / (4000 : Int64) * (4000 : Int64)).toInt32).toNatClampNeg (vp_nar .byte (x2.toInt8.toInt32)))) x2 x3) else (m_writeDevice_b104 st x2 x3))
def o_m_writeDevice_b66 (st : CS) (x2 : Int32) (x3 : Int32) : Prop := (((x3 = (1 : Int32)) → (vp_in (((gL st 1) - (gL st 1) / (4000 : Int64) * (4000 : Int64)).toInt32) 4000 ∧ (o_m_writeDevice_b87 (sA st 16 (upd (gA st 16) (((gL st 1) - (gL st 1) / (4000 : Int64) * (4000 : Int64)).toInt32).toNatClampNeg (vp_nar .byte (x2.toInt8.toInt32)))) x2 x3))) ∧ (¬ (x3 = (1 : Int32)) → (o_m_writeDevice_b104 st x2 x3)))
set_option maxHeartbeats 4000000 in
set_option maxRecDepth 100000 in
theorem k_m_writeDevice_b66 {p : Program} {l : Launch} {e : Env} {s : State} {m : MethodId} {args : Array Value} {below : List Frame} {meth : Method} {c : Code} {A : Nat → Prop} (g : Gm) (C : cX p s m args meth c A cX11_writeDevice none 4 RX11 wq_X11_writeDevice (gD g) vwCl (mty g) (mz g)) (st : CS) (x2 : Int32) (x3 : Int32) (H : Heap) (locs : List Loc) (ls : Array Slot) (hI : cI (gD g) vwCl (mw g) A s st H locs) (hl : lv_has ls 4 [(0, .ref (gad g 0)), (2, .int x2), (3, .int x3)]) (hO : o_m_writeDevice_b66 st x2 x3) (X : CS) (hF : X = m_writeDevice_b66 st x2 x3) : W p l e rm_m_writeDevice s m args below meth c H locs 0 0 (MQ below (cQv (gD g) vwCl (mty g) (mw g) A X) args s 0 0 A) (F0 m 66 ls []) := by
  obtain ⟨hx, hb, hr, hml, hown, hts, hlocks, hK, hA, hZ, hzo⟩ := id C
  unfold m_writeDevice_b66 at hF
  unfold o_m_writeDevice_b66 at hO
  refine lv_iload_n hx hb dX11_writeDevice_66 rfl (lv_at hl 2 rfl) ?_
  refine lv_iconst (v := (1 : Int32)) hx hb dX11_writeDevice_67 (by decide) ?_
  refine lv_icmp_ne (tgt := 104) hx hb dX11_writeDevice_68 (by decide) (fun c_68 => ?_) (fun c_68 => ?_)
  · have hF := hF.trans (if_neg c_68)
    have hO := hO.2 c_68
    exact k_m_writeDevice_b104 g C st x2 x3 H locs ls hI (lv_sub hl [0, 1, 2] rfl) hO X hF
  · have hF := hF.trans (if_pos c_68)
    have hO := hO.1 c_68
    refine lv_aload_n hx hb dX11_writeDevice_71 rfl (lv_at hl 0 rfl) ?_
    refine va_get (D := gD g) (ci := 11) (C := RX11) (T := TX11) (N := 50) (v := .ref (gad g 17)) hx hb hts (fun w h => List.mem_cons_of_mem _ (isX110 w h)) hown hK hI.1 0 rfl rfl 41 (by decide) (hts _ (List.mem_cons_of_mem _ mw201)) (fun _ h9 => h9) rfl dX11_writeDevice_72 ?_
    refine lv_aload_n hx hb dX11_writeDevice_75 rfl (lv_at hl 0 rfl) ?_
    refine va_get (D := gD g) (ci := 11) (C := RX11) (T := TX11) (N := 50) (v := .long (gL st 1)) hx hb hts (fun w h => List.mem_cons_of_mem _ (isX110 w h)) hown hK hI.1 0 rfl rfl 42 (by decide) (hts _ (List.mem_cons_of_mem _ mw899)) (fun _ h9 => h9) rfl dX11_writeDevice_76 ?_
    refine lv_ldc2 (v := (4000 : Int64)) hx hb hown (hts _ (List.mem_cons_of_mem _ mw900)) dX11_writeDevice_79 ?_
    refine lv_lrem hx hb dX11_writeDevice_82 (by decide) ?_
    refine lv_l2i (v := (((gL st 1) - (gL st 1) / (4000 : Int64) * (4000 : Int64)).toInt32)) hx hb dX11_writeDevice_83 rfl ?_
    refine lv_iload_n hx hb dX11_writeDevice_84 rfl (lv_at hl 1 rfl) ?_
    refine lv_i2b (v := (x2.toInt8.toInt32)) hx hb dX11_writeDevice_85 rfl ?_
    have hq_86_0 := hO.1
    have hO := hO.2
    refine va_bast (f := (gA st 16)) hx hb hK hI.1 hI.2.1 hI.2.2 17 16 rfl rfl hq_86_0 dX11_writeDevice_86 (fun H locs hP hD hS => ?_)
    have hI : cI (gD g) vwCl (mw g) A s (sA st 16 (upd (gA st 16) (((gL st 1) - (gL st 1) / (4000 : Int64) * (4000 : Int64)).toInt32).toNatClampNeg (vp_nar .byte (x2.toInt8.toInt32)))) H locs := ⟨hP, hD, hS⟩
    exact k_m_writeDevice_b87 g C (sA st 16 (upd (gA st 16) (((gL st 1) - (gL st 1) / (4000 : Int64) * (4000 : Int64)).toInt32).toNatClampNeg (vp_nar .byte (x2.toInt8.toInt32)))) x2 x3 H locs ls hI (lv_sub hl [0, 1, 2] rfl) hO X hF
def m_writeDevice_b36 (st : CS) (x1 : Int32) (x2 : Int32) : CS := (if ((m_within (x1 - (524288 : Int32)) (16 : Int32) (23 : Int32)) = 0) then (m_writeDevice_b66 st x2 (x1 - (524288 : Int32))) else (m_writeDevice_b66 (m_timer st (((x1 - (524288 : Int32)) - (16 : Int32)) >>> ((2 : Int32) &&& 31)) ((x1 - (524288 : Int32)) &&& (3 : Int32)) x2) x2 (x1 - (524288 : Int32))))
def o_m_writeDevice_b36 (st : CS) (x1 : Int32) (x2 : Int32) : Prop := ((((m_within (x1 - (524288 : Int32)) (16 : Int32) (23 : Int32)) = 0) → (o_m_writeDevice_b66 st x2 (x1 - (524288 : Int32)))) ∧ (¬ ((m_within (x1 - (524288 : Int32)) (16 : Int32) (23 : Int32)) = 0) → ((o_m_timer st (((x1 - (524288 : Int32)) - (16 : Int32)) >>> ((2 : Int32) &&& 31)) ((x1 - (524288 : Int32)) &&& (3 : Int32)) x2) ∧ (o_m_writeDevice_b66 (m_timer st (((x1 - (524288 : Int32)) - (16 : Int32)) >>> ((2 : Int32) &&& 31)) ((x1 - (524288 : Int32)) &&& (3 : Int32)) x2) x2 (x1 - (524288 : Int32))))))
set_option maxHeartbeats 4000000 in
set_option maxRecDepth 100000 in
theorem k_m_writeDevice_b36 {p : Program} {l : Launch} {e : Env} {s : State} {m : MethodId} {args : Array Value} {below : List Frame} {meth : Method} {c : Code} {A : Nat → Prop} (g : Gm) (C : cX p s m args meth c A cX11_writeDevice none 4 RX11 wq_X11_writeDevice (gD g) vwCl (mty g) (mz g)) (st : CS) (x1 : Int32) (x2 : Int32) (H : Heap) (locs : List Loc) (ls : Array Slot) (hI : cI (gD g) vwCl (mw g) A s st H locs) (hl : lv_has ls 4 [(0, .ref (gad g 0)), (1, .int x1), (2, .int x2)]) (hO : o_m_writeDevice_b36 st x1 x2) (X : CS) (hF : X = m_writeDevice_b36 st x1 x2) : W p l e rm_m_writeDevice s m args below meth c H locs 0 0 (MQ below (cQv (gD g) vwCl (mty g) (mw g) A X) args s 0 0 A) (F0 m 36 ls []) := by
  obtain ⟨hx, hb, hr, hml, hown, hts, hlocks, hK, hA, hZ, hzo⟩ := id C
  unfold m_writeDevice_b36 at hF
  unfold o_m_writeDevice_b36 at hO
  refine lv_iload_n hx hb dX11_writeDevice_36 rfl (lv_at hl 1 rfl) ?_
  refine lv_ldc (v := (524288 : Int32)) hx hb hown (hts _ (List.mem_cons_of_mem _ mw888)) dX11_writeDevice_37 ?_
  refine lv_isub hx hb dX11_writeDevice_39 ?_
  refine lv_istore_n (lv' := [(3, .int (x1 - (524288 : Int32))), (0, .ref (gad g 0)), (1, .int x1), (2, .int x2)]) hx hb dX11_writeDevice_40 rfl hl (by decide) rfl (fun ls hl => ?_)
  refine lv_iload_n hx hb dX11_writeDevice_41 rfl (lv_at hl 0 rfl) ?_
  refine lv_bipush (v := (16 : Int32)) hx hb dX11_writeDevice_42 (by decide) ?_
  refine lv_bipush (v := (23 : Int32)) hx hb dX11_writeDevice_44 (by decide) ?_
  refine cx_Si (As := [.int (x1 - (524288 : Int32)), .int (16 : Int32), .int (23 : Int32)]) (rest := []) C (c_m_within l g st (x1 - (524288 : Int32)) (16 : Int32) (23 : Int32)) (va_cwS 3 hts (gd_S _ mw238 mw239 mw3 mw240) rfl rfl rfl yd_yX11_within ⟨Nat.le_of_ble_eq_true rfl, Nat.le_of_ble_eq_true rfl⟩) hI rfl hl.1 rfl (Nat.le_of_ble_eq_true rfl) dX11_writeDevice_46 (fun H locs hI => ?_)
  refine lv_if_eq (tgt := 66) hx hb dX11_writeDevice_49 (by decide) (fun c_49 => ?_) (fun c_49 => ?_)
  · have hF := hF.trans (if_pos c_49)
    have hO := hO.1 c_49
    exact k_m_writeDevice_b66 g C st x2 (x1 - (524288 : Int32)) H locs ls hI (lv_sub hl [1, 3, 0] rfl) hO X hF
  · have hF := hF.trans (if_neg c_49)
    have hO := hO.2 c_49
    refine lv_aload_n hx hb dX11_writeDevice_52 rfl (lv_at hl 1 rfl) ?_
    refine lv_iload_n hx hb dX11_writeDevice_53 rfl (lv_at hl 0 rfl) ?_
    refine lv_bipush (v := (16 : Int32)) hx hb dX11_writeDevice_54 (by decide) ?_
    refine lv_isub hx hb dX11_writeDevice_56 ?_
    refine lv_iconst (v := (2 : Int32)) hx hb dX11_writeDevice_57 (by decide) ?_
    refine lv_ishr hx hb dX11_writeDevice_58 ?_
    refine lv_iload_n hx hb dX11_writeDevice_59 rfl (lv_at hl 0 rfl) ?_
    refine lv_iconst (v := (3 : Int32)) hx hb dX11_writeDevice_60 (by decide) ?_
    refine lv_iand hx hb dX11_writeDevice_61 ?_
    refine lv_iload_n hx hb dX11_writeDevice_62 rfl (lv_at hl 3 rfl) ?_
    have hq_63_0 := hO.1
    have hO := hO.2
    refine cx_Vv (As := [.int (((x1 - (524288 : Int32)) - (16 : Int32)) >>> ((2 : Int32) &&& 31)), .int ((x1 - (524288 : Int32)) &&& (3 : Int32)), .int x2]) (rest := []) C (c_m_timer l g st (((x1 - (524288 : Int32)) - (16 : Int32)) >>> ((2 : Int32) &&& 31)) ((x1 - (524288 : Int32)) &&& (3 : Int32)) x2 hq_63_0) (cwV 3 hts (gd_V _ mw907 mw908 mw909 mw3 mw910) rfl rfl rfl yd_yX11_timer ⟨Nat.le_of_ble_eq_true rfl, Nat.le_of_ble_eq_true rfl⟩) (va_recv hK hI.1 (ci := 11) (q0 := 0) rfl rfl) hI rfl hl.1 rfl (Nat.le_of_ble_eq_true rfl) dX11_writeDevice_63 (fun H locs hI => ?_)
    exact k_m_writeDevice_b66 g C (m_timer st (((x1 - (524288 : Int32)) - (16 : Int32)) >>> ((2 : Int32) &&& 31)) ((x1 - (524288 : Int32)) &&& (3 : Int32)) x2) x2 (x1 - (524288 : Int32)) H locs ls hI (lv_sub hl [1, 3, 0] rfl) hO X hF
def m_writeDevice_b24 (st : CS) (x1 : Int32) (x2 : Int32) : CS := (if (x1 = (16386 : Int32)) then (m_writeDevice_b36 (m_disk st x2) x1 x2) else (m_writeDevice_b36 st x1 x2))
def o_m_writeDevice_b24 (st : CS) (x1 : Int32) (x2 : Int32) : Prop := (((x1 = (16386 : Int32)) → ((o_m_disk st x2) ∧ (o_m_writeDevice_b36 (m_disk st x2) x1 x2))) ∧ (¬ (x1 = (16386 : Int32)) → (o_m_writeDevice_b36 st x1 x2)))
set_option maxHeartbeats 4000000 in
set_option maxRecDepth 100000 in
theorem k_m_writeDevice_b24 {p : Program} {l : Launch} {e : Env} {s : State} {m : MethodId} {args : Array Value} {below : List Frame} {meth : Method} {c : Code} {A : Nat → Prop} (g : Gm) (C : cX p s m args meth c A cX11_writeDevice none 4 RX11 wq_X11_writeDevice (gD g) vwCl (mty g) (mz g)) (st : CS) (x1 : Int32) (x2 : Int32) (H : Heap) (locs : List Loc) (ls : Array Slot) (hI : cI (gD g) vwCl (mw g) A s st H locs) (hl : lv_has ls 4 [(0, .ref (gad g 0)), (1, .int x1), (2, .int x2)]) (hO : o_m_writeDevice_b24 st x1 x2) (X : CS) (hF : X = m_writeDevice_b24 st x1 x2) : W p l e rm_m_writeDevice s m args below meth c H locs 0 0 (MQ below (cQv (gD g) vwCl (mty g) (mw g) A X) args s 0 0 A) (F0 m 24 ls []) := by
  obtain ⟨hx, hb, hr, hml, hown, hts, hlocks, hK, hA, hZ, hzo⟩ := id C
  unfold m_writeDevice_b24 at hF
  unfold o_m_writeDevice_b24 at hO
  refine lv_iload_n hx hb dX11_writeDevice_24 rfl (lv_at hl 1 rfl) ?_
  refine lv_sipush (v := (16386 : Int32)) hx hb dX11_writeDevice_25 (by decide) ?_
  refine lv_icmp_ne (tgt := 36) hx hb dX11_writeDevice_28 (by decide) (fun c_28 => ?_) (fun c_28 => ?_)
  · have hF := hF.trans (if_neg c_28)
    have hO := hO.2 c_28
    exact k_m_writeDevice_b36 g C st x1 x2 H locs ls hI (lv_sub hl [0, 1, 2] rfl) hO X hF
  · have hF := hF.trans (if_pos c_28)
    have hO := hO.1 c_28
    refine lv_aload_n hx hb dX11_writeDevice_31 rfl (lv_at hl 0 rfl) ?_
    refine lv_iload_n hx hb dX11_writeDevice_32 rfl (lv_at hl 2 rfl) ?_
    have hq_33_0 := hO.1
    have hO := hO.2
    refine cx_Vv (As := [.int x2]) (rest := []) C (c_m_disk l g st x2 hq_33_0) (cwV 1 hts (gd_V _ mw901 mw902 mw903 mw3 mw904) rfl rfl rfl yd_yX11_disk ⟨Nat.le_of_ble_eq_true rfl, Nat.le_of_ble_eq_true rfl⟩) (va_recv hK hI.1 (ci := 11) (q0 := 0) rfl rfl) hI rfl hl.1 rfl (Nat.le_of_ble_eq_true rfl) dX11_writeDevice_33 (fun H locs hI => ?_)
    exact k_m_writeDevice_b36 g C (m_disk st x2) x1 x2 H locs ls hI (lv_sub hl [0, 1, 2] rfl) hO X hF
def m_writeDevice_b12 (st : CS) (x1 : Int32) (x2 : Int32) : CS := (if (x1 = (16385 : Int32)) then (m_writeDevice_b24 (sI st 17 x2) x1 x2) else (m_writeDevice_b24 st x1 x2))
def o_m_writeDevice_b12 (st : CS) (x1 : Int32) (x2 : Int32) : Prop := (((x1 = (16385 : Int32)) → (o_m_writeDevice_b24 (sI st 17 x2) x1 x2)) ∧ (¬ (x1 = (16385 : Int32)) → (o_m_writeDevice_b24 st x1 x2)))
set_option maxHeartbeats 4000000 in
set_option maxRecDepth 100000 in
theorem k_m_writeDevice_b12 {p : Program} {l : Launch} {e : Env} {s : State} {m : MethodId} {args : Array Value} {below : List Frame} {meth : Method} {c : Code} {A : Nat → Prop} (g : Gm) (C : cX p s m args meth c A cX11_writeDevice none 4 RX11 wq_X11_writeDevice (gD g) vwCl (mty g) (mz g)) (st : CS) (x1 : Int32) (x2 : Int32) (H : Heap) (locs : List Loc) (ls : Array Slot) (hI : cI (gD g) vwCl (mw g) A s st H locs) (hl : lv_has ls 4 [(0, .ref (gad g 0)), (1, .int x1), (2, .int x2)]) (hO : o_m_writeDevice_b12 st x1 x2) (X : CS) (hF : X = m_writeDevice_b12 st x1 x2) : W p l e rm_m_writeDevice s m args below meth c H locs 0 0 (MQ below (cQv (gD g) vwCl (mty g) (mw g) A X) args s 0 0 A) (F0 m 12 ls []) := by
  obtain ⟨hx, hb, hr, hml, hown, hts, hlocks, hK, hA, hZ, hzo⟩ := id C
  unfold m_writeDevice_b12 at hF
  unfold o_m_writeDevice_b12 at hO
  refine lv_iload_n hx hb dX11_writeDevice_12 rfl (lv_at hl 1 rfl) ?_
  refine lv_sipush (v := (16385 : Int32)) hx hb dX11_writeDevice_13 (by decide) ?_
  refine lv_icmp_ne (tgt := 24) hx hb dX11_writeDevice_16 (by decide) (fun c_16 => ?_) (fun c_16 => ?_)
  · have hF := hF.trans (if_neg c_16)
    have hO := hO.2 c_16
    exact k_m_writeDevice_b24 g C st x1 x2 H locs ls hI (lv_sub hl [0, 1, 2] rfl) hO X hF
  · have hF := hF.trans (if_pos c_16)
    have hO := hO.1 c_16
    refine lv_aload_n hx hb dX11_writeDevice_19 rfl (lv_at hl 0 rfl) ?_
    refine lv_iload_n hx hb dX11_writeDevice_20 rfl (lv_at hl 2 rfl) ?_
    refine va_put (D := gD g) (ci := 11) (C := RX11) (T := TX11) (N := 50) (v := .int x2) (ty := .int) hx hb hts (fun w h => List.mem_cons_of_mem _ (isX110 w h)) tyX11 tyX11_ok nmX11 hown hK hI.1 hI.2.1 hI.2.2 0 rfl rfl 34 (by decide) (hts _ (List.mem_cons_of_mem _ mw224)) (fun _ h9 => h9) rfl (by decide +kernel) rfl rfl (Nat.le_of_ble_eq_true rfl) dX11_writeDevice_21 (fun H locs hP hD hS => ?_)
    have hI : cI (gD g) vwCl (mw g) A s (sI st 17 x2) H locs := ⟨hP, hD, hS⟩
    exact k_m_writeDevice_b24 g C (sI st 17 x2) x1 x2 H locs ls hI (lv_sub hl [0, 1, 2] rfl) hO X hF
def m_writeDevice (st : CS) (x1 : Int32) (x2 : Int32) : CS := (if (x1 = (16384 : Int32)) then (m_writeDevice_b12 (sI st 16 x2) x1 x2) else (m_writeDevice_b12 st x1 x2))
def o_m_writeDevice (st : CS) (x1 : Int32) (x2 : Int32) : Prop := (((x1 = (16384 : Int32)) → (o_m_writeDevice_b12 (sI st 16 x2) x1 x2)) ∧ (¬ (x1 = (16384 : Int32)) → (o_m_writeDevice_b12 st x1 x2)))
set_option maxHeartbeats 4000000 in
set_option maxRecDepth 100000 in
theorem k_m_writeDevice {p : Program} {l : Launch} {e : Env} {s : State} {m : MethodId} {args : Array Value} {below : List Frame} {meth : Method} {c : Code} {A : Nat → Prop} (g : Gm) (C : cX p s m args meth c A cX11_writeDevice none 4 RX11 wq_X11_writeDevice (gD g) vwCl (mty g) (mz g)) (st : CS) (x1 : Int32) (x2 : Int32) (H : Heap) (locs : List Loc) (ls : Array Slot) (hI : cI (gD g) vwCl (mw g) A s st H locs) (hl : lv_has ls 4 [(0, .ref (gad g 0)), (1, .int x1), (2, .int x2)]) (hO : o_m_writeDevice st x1 x2) (X : CS) (hF : X = m_writeDevice st x1 x2) : W p l e rm_m_writeDevice s m args below meth c H locs 0 0 (MQ below (cQv (gD g) vwCl (mty g) (mw g) A X) args s 0 0 A) (F0 m 0 ls []) := by
  obtain ⟨hx, hb, hr, hml, hown, hts, hlocks, hK, hA, hZ, hzo⟩ := id C
  unfold m_writeDevice at hF
  unfold o_m_writeDevice at hO
  refine lv_iload_n hx hb dX11_writeDevice_0 rfl (lv_at hl 1 rfl) ?_
  refine lv_sipush (v := (16384 : Int32)) hx hb dX11_writeDevice_1 (by decide) ?_
  refine lv_icmp_ne (tgt := 12) hx hb dX11_writeDevice_4 (by decide) (fun c_4 => ?_) (fun c_4 => ?_)
  · have hF := hF.trans (if_neg c_4)
    have hO := hO.2 c_4
    exact k_m_writeDevice_b12 g C st x1 x2 H locs ls hI (lv_sub hl [0, 1, 2] rfl) hO X hF
  · have hF := hF.trans (if_pos c_4)
    have hO := hO.1 c_4
    refine lv_aload_n hx hb dX11_writeDevice_7 rfl (lv_at hl 0 rfl) ?_
    refine lv_iload_n hx hb dX11_writeDevice_8 rfl (lv_at hl 2 rfl) ?_
    refine va_put (D := gD g) (ci := 11) (C := RX11) (T := TX11) (N := 50) (v := .int x2) (ty := .int) hx hb hts (fun w h => List.mem_cons_of_mem _ (isX110 w h)) tyX11 tyX11_ok nmX11 hown hK hI.1 hI.2.1 hI.2.2 0 rfl rfl 33 (by decide) (hts _ (List.mem_cons_of_mem _ mw223)) (fun _ h9 => h9) rfl (by decide +kernel) rfl rfl (Nat.le_of_ble_eq_true rfl) dX11_writeDevice_9 (fun H locs hP hD hS => ?_)
    have hI : cI (gD g) vwCl (mw g) A s (sI st 16 x2) H locs := ⟨hP, hD, hS⟩
    exact k_m_writeDevice_b12 g C (sI st 16 x2) x1 x2 H locs ls hI (lv_sub hl [0, 1, 2] rfl) hO X hF
set_option maxHeartbeats 4000000 in
set_option maxRecDepth 100000 in
theorem c_m_writeDevice (l : Launch) (g : Gm) (st : CS) (x1 : Int32) (x2 : Int32) (hO : o_m_writeDevice st x1 x2) : Mv l yX11_writeDevice wq_X11_writeDevice rm_m_writeDevice (gD g) vwCl (mty g) (mw g) (mz g) [.ref (gad g 0), .int x1, .int x2] st (m_writeDevice st x1 x2) := by
  intro sz
  refine Met.ofW (cc := cX11_writeDevice) (maxL := 4) (ret := none) (by decide) rfl ?_
  intro p e s m args below meth c s₁ B hml hv
  obtain ⟨rfl, hsz, hP, hK, hD0, hZ⟩ := hv
  subst hsz
  have hl := lv_entry ([.ref (gad g 0), .int x1, .int x2]) (n := 4) (Nat.le_of_ble_eq_true rfl)
  rw [lg_entry_eq]
  generalize (lg_sl ([.ref (gad g 0), .int x1, .int x2]) ++ List.replicate (4 - (lg_sl ([.ref (gad g 0), .int x1, .int x2])).length) Slot.unset).toArray = ls at hl ⊢
  exact k_m_writeDevice g ⟨B.exec, B.bytes, B.returns, hml, findClass_of_methodNamed B.named, atoms_spec (ws := wq_X11_writeDevice) B.pre, B.notSynchronized, hK, fun q h => Or.inr h, hZ, mz_ok g⟩ st x1 x2 _ _ ls ⟨hP, hD0.self, va_S.rf⟩ hl hO _ rfl
abbrev wq_X11_writeFar : List Cond := .code yX11_writeFar cX11_writeFar 4 none :: wAll
theorem yd_yX11_writeFar : yX11_writeFar.cls = RX11 ∧ yX11_writeFar.cls ≠ "java/lang/invoke/MethodHandle" ∧ yX11_writeFar.cls ≠ "java/lang/invoke/VarHandle" ∧ (parseMethodDescriptor yX11_writeFar.desc).map (fun d => d.parameters.length) = some 2 := by decide +kernel
abbrev rm_m_writeFar : Room := { frames := 2, cells := 0, slots := 0, locals := 46 }
def m_writeFar_b199 (st : CS) (y1 : Int32) (y0 : Int32) : CS := (sA st 7 (upd (gA st 7) y1.toNatClampNeg y0))
def o_m_writeFar_b199 (st : CS) (y1 : Int32) (y0 : Int32) : Prop := (vp_in y1 16 ∧ True)
set_option maxHeartbeats 4000000 in
set_option maxRecDepth 100000 in
theorem k_m_writeFar_b199 {p : Program} {l : Launch} {e : Env} {s : State} {m : MethodId} {args : Array Value} {below : List Frame} {meth : Method} {c : Code} {A : Nat → Prop} (g : Gm) (C : cX p s m args meth c A cX11_writeFar none 4 RX11 wq_X11_writeFar (gD g) vwCl (mty g) (mz g)) (st : CS) (y1 : Int32) (y0 : Int32) (H : Heap) (locs : List Loc) (ls : Array Slot) (hI : cI (gD g) vwCl (mw g) A s st H locs) (hl : lv_has ls 4 [(0, .ref (gad g 0))]) (hO : o_m_writeFar_b199 st y1 y0) (X : CS) (hF : X = m_writeFar_b199 st y1 y0) : W p l e rm_m_writeFar s m args below meth c H locs 0 0 (MQ below (cQv (gD g) vwCl (mty g) (mw g) A X) args s 0 0 A) (F0 m 199 ls [.int y0, .int y1, .ref (gad g 8)]) := by
  obtain ⟨hx, hb, hr, hml, hown, hts, hlocks, hK, hA, hZ, hzo⟩ := id C
  unfold m_writeFar_b199 at hF
  unfold o_m_writeFar_b199 at hO
  have hq_199_0 := hO.1
  have hO := hO.2
  refine va_iast (f := (gA st 7)) hx hb hK hI.1 hI.2.1 hI.2.2 8 7 rfl rfl hq_199_0 dX11_writeFar_199 (fun H locs hP hD hS => ?_)
  have hI : cI (gD g) vwCl (mw g) A s (sA st 7 (upd (gA st 7) y1.toNatClampNeg y0)) H locs := ⟨hP, hD, hS⟩
  exact cx_vret C hI hF dX11_writeFar_200
def m_writeFar_b163 (st : CS) (x1 : Int32) (x3 : Int32) : CS := (if (((x1 >>> ((4 : Int32) &&& 31)) &&& (1 : Int32)) = (1 : Int32)) then (m_writeFar_b199 st x3 (-1 : Int32)) else (m_writeFar_b199 st x3 (((x1 >>> ((12 : Int32) &&& 31)) &&& (2047 : Int32)) ||| (((x1 >>> ((10 : Int32) &&& 31)) &&& (3 : Int32)) <<< ((11 : Int32) &&& 31)))))
def o_m_writeFar_b163 (st : CS) (x1 : Int32) (x3 : Int32) : Prop := (((((x1 >>> ((4 : Int32) &&& 31)) &&& (1 : Int32)) = (1 : Int32)) → (o_m_writeFar_b199 st x3 (-1 : Int32))) ∧ (¬ (((x1 >>> ((4 : Int32) &&& 31)) &&& (1 : Int32)) = (1 : Int32)) → (o_m_writeFar_b199 st x3 (((x1 >>> ((12 : Int32) &&& 31)) &&& (2047 : Int32)) ||| (((x1 >>> ((10 : Int32) &&& 31)) &&& (3 : Int32)) <<< ((11 : Int32) &&& 31))))))
set_option maxHeartbeats 4000000 in
set_option maxRecDepth 100000 in
theorem k_m_writeFar_b163 {p : Program} {l : Launch} {e : Env} {s : State} {m : MethodId} {args : Array Value} {below : List Frame} {meth : Method} {c : Code} {A : Nat → Prop} (g : Gm) (C : cX p s m args meth c A cX11_writeFar none 4 RX11 wq_X11_writeFar (gD g) vwCl (mty g) (mz g)) (st : CS) (x1 : Int32) (x3 : Int32) (H : Heap) (locs : List Loc) (ls : Array Slot) (hI : cI (gD g) vwCl (mw g) A s st H locs) (hl : lv_has ls 4 [(0, .ref (gad g 0)), (1, .int x1), (3, .int x3)]) (hO : o_m_writeFar_b163 st x1 x3) (X : CS) (hF : X = m_writeFar_b163 st x1 x3) : W p l e rm_m_writeFar s m args below meth c H locs 0 0 (MQ below (cQv (gD g) vwCl (mty g) (mw g) A X) args s 0 0 A) (F0 m 163 ls []) := by
  obtain ⟨hx, hb, hr, hml, hown, hts, hlocks, hK, hA, hZ, hzo⟩ := id C
  unfold m_writeFar_b163 at hF
  unfold o_m_writeFar_b163 at hO
  refine lv_aload_n hx hb dX11_writeFar_163 rfl (lv_at hl 0 rfl) ?_
  refine va_get (D := gD g) (ci := 11) (C := RX11) (T := TX11) (N := 50) (v := .ref (gad g 8)) hx hb hts (fun w h => List.mem_cons_of_mem _ (isX110 w h)) hown hK hI.1 0 rfl rfl 12 (by decide) (hts _ (List.mem_cons_of_mem _ mw192)) (fun _ h9 => h9) rfl dX11_writeFar_164 ?_
  refine lv_iload_n hx hb dX11_writeFar_167 rfl (lv_at hl 2 rfl) ?_
  refine lv_iload_n hx hb dX11_writeFar_168 rfl (lv_at hl 1 rfl) ?_
  refine lv_iconst (v := (4 : Int32)) hx hb dX11_writeFar_169 (by decide) ?_
  refine lv_ishr hx hb dX11_writeFar_170 ?_
  refine lv_iconst (v := (1 : Int32)) hx hb dX11_writeFar_171 (by decide) ?_
  refine lv_iand hx hb dX11_writeFar_172 ?_
  refine lv_iconst (v := (1 : Int32)) hx hb dX11_writeFar_173 (by decide) ?_
  refine lv_icmp_ne (tgt := 181) hx hb dX11_writeFar_174 (by decide) (fun c_174 => ?_) (fun c_174 => ?_)
  · have hF := hF.trans (if_neg c_174)
    have hO := hO.2 c_174
    refine lv_iload_n hx hb dX11_writeFar_181 rfl (lv_at hl 1 rfl) ?_
    refine lv_bipush (v := (12 : Int32)) hx hb dX11_writeFar_182 (by decide) ?_
    refine lv_ishr hx hb dX11_writeFar_184 ?_
    refine lv_sipush (v := (2047 : Int32)) hx hb dX11_writeFar_185 (by decide) ?_
    refine lv_iand hx hb dX11_writeFar_188 ?_
    refine lv_iload_n hx hb dX11_writeFar_189 rfl (lv_at hl 1 rfl) ?_
    refine lv_bipush (v := (10 : Int32)) hx hb dX11_writeFar_190 (by decide) ?_
    refine lv_ishr hx hb dX11_writeFar_192 ?_
    refine lv_iconst (v := (3 : Int32)) hx hb dX11_writeFar_193 (by decide) ?_
    refine lv_iand hx hb dX11_writeFar_194 ?_
    refine lv_bipush (v := (11 : Int32)) hx hb dX11_writeFar_195 (by decide) ?_
    refine lv_ishl hx hb dX11_writeFar_197 ?_
    refine lv_ior hx hb dX11_writeFar_198 ?_
    exact k_m_writeFar_b199 g C st x3 (((x1 >>> ((12 : Int32) &&& 31)) &&& (2047 : Int32)) ||| (((x1 >>> ((10 : Int32) &&& 31)) &&& (3 : Int32)) <<< ((11 : Int32) &&& 31))) H locs ls hI (lv_sub hl [0] rfl) hO X hF
  · have hF := hF.trans (if_pos c_174)
    have hO := hO.1 c_174
    refine lv_iconst (v := (-1 : Int32)) hx hb dX11_writeFar_177 (by decide) ?_
    refine lv_goto (tgt := 199) hx hb dX11_writeFar_178 (by decide) ?_
    exact k_m_writeFar_b199 g C st x3 (-1 : Int32) H locs ls hI (lv_sub hl [0] rfl) hO X hF
def m_writeFar_b143 (st : CS) : CS := st
set_option maxHeartbeats 4000000 in
set_option maxRecDepth 100000 in
theorem k_m_writeFar_b143 {p : Program} {l : Launch} {e : Env} {s : State} {m : MethodId} {args : Array Value} {below : List Frame} {meth : Method} {c : Code} {A : Nat → Prop} (g : Gm) (C : cX p s m args meth c A cX11_writeFar none 4 RX11 wq_X11_writeFar (gD g) vwCl (mty g) (mz g)) (st : CS) (H : Heap) (locs : List Loc) (ls : Array Slot) (hI : cI (gD g) vwCl (mw g) A s st H locs) (hl : lv_has ls 4 [(0, .ref (gad g 0))]) (X : CS) (hF : X = m_writeFar_b143 st ) : W p l e rm_m_writeFar s m args below meth c H locs 0 0 (MQ below (cQv (gD g) vwCl (mty g) (mw g) A X) args s 0 0 A) (F0 m 143 ls []) := by
  obtain ⟨hx, hb, hr, hml, hown, hts, hlocks, hK, hA, hZ, hzo⟩ := id C
  unfold m_writeFar_b143 at hF
  refine lv_goto (tgt := 200) hx hb dX11_writeFar_143 (by decide) ?_
  exact cx_vret C hI hF dX11_writeFar_200
def m_writeFar_b117 (st : CS) (x1 : Int32) (x3 : Int32) : CS := (if (x3 = (7 : Int32)) then (m_writeFar_b143 (sI (sI st 7 ((x1 >>> ((10 : Int32) &&& 31)) &&& (1 : Int32))) 8 ((x1 >>> ((12 : Int32) &&& 31)) &&& (1 : Int32))) ) else (m_writeFar_b143 st ))
set_option maxHeartbeats 4000000 in
set_option maxRecDepth 100000 in
theorem k_m_writeFar_b117 {p : Program} {l : Launch} {e : Env} {s : State} {m : MethodId} {args : Array Value} {below : List Frame} {meth : Method} {c : Code} {A : Nat → Prop} (g : Gm) (C : cX p s m args meth c A cX11_writeFar none 4 RX11 wq_X11_writeFar (gD g) vwCl (mty g) (mz g)) (st : CS) (x1 : Int32) (x3 : Int32) (H : Heap) (locs : List Loc) (ls : Array Slot) (hI : cI (gD g) vwCl (mw g) A s st H locs) (hl : lv_has ls 4 [(0, .ref (gad g 0)), (1, .int x1), (3, .int x3)]) (X : CS) (hF : X = m_writeFar_b117 st x1 x3) : W p l e rm_m_writeFar s m args below meth c H locs 0 0 (MQ below (cQv (gD g) vwCl (mty g) (mw g) A X) args s 0 0 A) (F0 m 117 ls []) := by
  obtain ⟨hx, hb, hr, hml, hown, hts, hlocks, hK, hA, hZ, hzo⟩ := id C
  unfold m_writeFar_b117 at hF
  refine lv_iload_n hx hb dX11_writeFar_117 rfl (lv_at hl 2 rfl) ?_
  refine lv_bipush (v := (7 : Int32)) hx hb dX11_writeFar_118 (by decide) ?_
  refine lv_icmp_ne (tgt := 143) hx hb dX11_writeFar_120 (by decide) (fun c_120 => ?_) (fun c_120 => ?_)
  · have hF := hF.trans (if_neg c_120)
    exact k_m_writeFar_b143 g C st  H locs ls hI (lv_sub hl [0] rfl) X hF
  · have hF := hF.trans (if_pos c_120)
    refine lv_aload_n hx hb dX11_writeFar_123 rfl (lv_at hl 0 rfl) ?_
    refine lv_iload_n hx hb dX11_writeFar_124 rfl (lv_at hl 1 rfl) ?_
    refine lv_bipush (v := (10 : Int32)) hx hb dX11_writeFar_125 (by decide) ?_
    refine lv_ishr hx hb dX11_writeFar_127 ?_
    refine lv_iconst (v := (1 : Int32)) hx hb dX11_writeFar_128 (by decide) ?_
    refine lv_iand hx hb dX11_writeFar_129 ?_
    refine va_put (D := gD g) (ci := 11) (C := RX11) (T := TX11) (N := 50) (v := .int ((x1 >>> ((10 : Int32) &&& 31)) &&& (1 : Int32))) (ty := .int) hx hb hts (fun w h => List.mem_cons_of_mem _ (isX110 w h)) tyX11 tyX11_ok nmX11 hown hK hI.1 hI.2.1 hI.2.2 0 rfl rfl 17 (by decide) (hts _ (List.mem_cons_of_mem _ mw213)) (fun _ h9 => h9) rfl (by decide +kernel) rfl rfl (Nat.le_of_ble_eq_true rfl) dX11_writeFar_130 (fun H locs hP hD hS => ?_)
    have hI : cI (gD g) vwCl (mw g) A s (sI st 7 ((x1 >>> ((10 : Int32) &&& 31)) &&& (1 : Int32))) H locs := ⟨hP, hD, hS⟩
    refine lv_aload_n hx hb dX11_writeFar_133 rfl (lv_at hl 0 rfl) ?_
    refine lv_iload_n hx hb dX11_writeFar_134 rfl (lv_at hl 1 rfl) ?_
    refine lv_bipush (v := (12 : Int32)) hx hb dX11_writeFar_135 (by decide) ?_
    refine lv_ishr hx hb dX11_writeFar_137 ?_
    refine lv_iconst (v := (1 : Int32)) hx hb dX11_writeFar_138 (by decide) ?_
    refine lv_iand hx hb dX11_writeFar_139 ?_
    refine va_put (D := gD g) (ci := 11) (C := RX11) (T := TX11) (N := 50) (v := .int ((x1 >>> ((12 : Int32) &&& 31)) &&& (1 : Int32))) (ty := .int) hx hb hts (fun w h => List.mem_cons_of_mem _ (isX110 w h)) tyX11 tyX11_ok nmX11 hown hK hI.1 hI.2.1 hI.2.2 0 rfl rfl 18 (by decide) (hts _ (List.mem_cons_of_mem _ mw214)) (fun _ h9 => h9) rfl (by decide +kernel) rfl rfl (Nat.le_of_ble_eq_true rfl) dX11_writeFar_140 (fun H locs hP hD hS => ?_)
    have hI : cI (gD g) vwCl (mw g) A s (sI (sI st 7 ((x1 >>> ((10 : Int32) &&& 31)) &&& (1 : Int32))) 8 ((x1 >>> ((12 : Int32) &&& 31)) &&& (1 : Int32))) H locs := ⟨hP, hD, hS⟩
    exact k_m_writeFar_b143 g C (sI (sI st 7 ((x1 >>> ((10 : Int32) &&& 31)) &&& (1 : Int32))) 8 ((x1 >>> ((12 : Int32) &&& 31)) &&& (1 : Int32)))  H locs ls hI (lv_sub hl [0] rfl) X hF
def m_writeFar_b82 (st : CS) : CS := st
set_option maxHeartbeats 4000000 in
set_option maxRecDepth 100000 in
theorem k_m_writeFar_b82 {p : Program} {l : Launch} {e : Env} {s : State} {m : MethodId} {args : Array Value} {below : List Frame} {meth : Method} {c : Code} {A : Nat → Prop} (g : Gm) (C : cX p s m args meth c A cX11_writeFar none 4 RX11 wq_X11_writeFar (gD g) vwCl (mty g) (mz g)) (st : CS) (H : Heap) (locs : List Loc) (ls : Array Slot) (hI : cI (gD g) vwCl (mw g) A s st H locs) (hl : lv_has ls 4 [(0, .ref (gad g 0))]) (X : CS) (hF : X = m_writeFar_b82 st ) : W p l e rm_m_writeFar s m args below meth c H locs 0 0 (MQ below (cQv (gD g) vwCl (mty g) (mw g) A X) args s 0 0 A) (F0 m 82 ls []) := by
  obtain ⟨hx, hb, hr, hml, hown, hts, hlocks, hK, hA, hZ, hzo⟩ := id C
  unfold m_writeFar_b82 at hF
  refine lv_goto (tgt := 200) hx hb dX11_writeFar_82 (by decide) ?_
  exact cx_vret C hI hF dX11_writeFar_200
def m_writeFar_b67 (st : CS) (x2 : Int32) (x3 : Int32) : CS := (if (x3 = (56 : Int32)) then (m_writeFar_b82 (sI st 6 ((x2 >>> ((2 : Int32) &&& 31)) &&& (3 : Int32))) ) else (m_writeFar_b82 st ))
set_option maxHeartbeats 4000000 in
set_option maxRecDepth 100000 in
theorem k_m_writeFar_b67 {p : Program} {l : Launch} {e : Env} {s : State} {m : MethodId} {args : Array Value} {below : List Frame} {meth : Method} {c : Code} {A : Nat → Prop} (g : Gm) (C : cX p s m args meth c A cX11_writeFar none 4 RX11 wq_X11_writeFar (gD g) vwCl (mty g) (mz g)) (st : CS) (x2 : Int32) (x3 : Int32) (H : Heap) (locs : List Loc) (ls : Array Slot) (hI : cI (gD g) vwCl (mw g) A s st H locs) (hl : lv_has ls 4 [(0, .ref (gad g 0)), (2, .int x2), (3, .int x3)]) (X : CS) (hF : X = m_writeFar_b67 st x2 x3) : W p l e rm_m_writeFar s m args below meth c H locs 0 0 (MQ below (cQv (gD g) vwCl (mty g) (mw g) A X) args s 0 0 A) (F0 m 67 ls []) := by
  obtain ⟨hx, hb, hr, hml, hown, hts, hlocks, hK, hA, hZ, hzo⟩ := id C
  unfold m_writeFar_b67 at hF
  refine lv_iload_n hx hb dX11_writeFar_67 rfl (lv_at hl 2 rfl) ?_
  refine lv_bipush (v := (56 : Int32)) hx hb dX11_writeFar_68 (by decide) ?_
  refine lv_icmp_ne (tgt := 82) hx hb dX11_writeFar_70 (by decide) (fun c_70 => ?_) (fun c_70 => ?_)
  · have hF := hF.trans (if_neg c_70)
    exact k_m_writeFar_b82 g C st  H locs ls hI (lv_sub hl [0] rfl) X hF
  · have hF := hF.trans (if_pos c_70)
    refine lv_aload_n hx hb dX11_writeFar_73 rfl (lv_at hl 0 rfl) ?_
    refine lv_iload_n hx hb dX11_writeFar_74 rfl (lv_at hl 1 rfl) ?_
    refine lv_iconst (v := (2 : Int32)) hx hb dX11_writeFar_75 (by decide) ?_
    refine lv_ishr hx hb dX11_writeFar_76 ?_
    refine lv_iconst (v := (3 : Int32)) hx hb dX11_writeFar_77 (by decide) ?_
    refine lv_iand hx hb dX11_writeFar_78 ?_
    refine va_put (D := gD g) (ci := 11) (C := RX11) (T := TX11) (N := 50) (v := .int ((x2 >>> ((2 : Int32) &&& 31)) &&& (3 : Int32))) (ty := .int) hx hb hts (fun w h => List.mem_cons_of_mem _ (isX110 w h)) tyX11 tyX11_ok nmX11 hown hK hI.1 hI.2.1 hI.2.2 0 rfl rfl 16 (by decide) (hts _ (List.mem_cons_of_mem _ mw212)) (fun _ h9 => h9) rfl (by decide +kernel) rfl rfl (Nat.le_of_ble_eq_true rfl) dX11_writeFar_79 (fun H locs hP hD hS => ?_)
    have hI : cI (gD g) vwCl (mw g) A s (sI st 6 ((x2 >>> ((2 : Int32) &&& 31)) &&& (3 : Int32))) H locs := ⟨hP, hD, hS⟩
    exact k_m_writeFar_b82 g C (sI st 6 ((x2 >>> ((2 : Int32) &&& 31)) &&& (3 : Int32)))  H locs ls hI (lv_sub hl [0] rfl) X hF
def m_writeFar_b52 (st : CS) (x2 : Int32) (x3 : Int32) : CS := (if (x3 = (16 : Int32)) then (m_writeFar_b67 (sI st 5 (x2 &&& (8191 : Int32))) x2 x3) else (m_writeFar_b67 st x2 x3))
set_option maxHeartbeats 4000000 in
set_option maxRecDepth 100000 in
theorem k_m_writeFar_b52 {p : Program} {l : Launch} {e : Env} {s : State} {m : MethodId} {args : Array Value} {below : List Frame} {meth : Method} {c : Code} {A : Nat → Prop} (g : Gm) (C : cX p s m args meth c A cX11_writeFar none 4 RX11 wq_X11_writeFar (gD g) vwCl (mty g) (mz g)) (st : CS) (x2 : Int32) (x3 : Int32) (H : Heap) (locs : List Loc) (ls : Array Slot) (hI : cI (gD g) vwCl (mw g) A s st H locs) (hl : lv_has ls 4 [(0, .ref (gad g 0)), (2, .int x2), (3, .int x3)]) (X : CS) (hF : X = m_writeFar_b52 st x2 x3) : W p l e rm_m_writeFar s m args below meth c H locs 0 0 (MQ below (cQv (gD g) vwCl (mty g) (mw g) A X) args s 0 0 A) (F0 m 52 ls []) := by
  obtain ⟨hx, hb, hr, hml, hown, hts, hlocks, hK, hA, hZ, hzo⟩ := id C
  unfold m_writeFar_b52 at hF
  refine lv_iload_n hx hb dX11_writeFar_52 rfl (lv_at hl 2 rfl) ?_
  refine lv_bipush (v := (16 : Int32)) hx hb dX11_writeFar_53 (by decide) ?_
  refine lv_icmp_ne (tgt := 67) hx hb dX11_writeFar_55 (by decide) (fun c_55 => ?_) (fun c_55 => ?_)
  · have hF := hF.trans (if_neg c_55)
    exact k_m_writeFar_b67 g C st x2 x3 H locs ls hI (lv_sub hl [0, 1, 2] rfl) X hF
  · have hF := hF.trans (if_pos c_55)
    refine lv_aload_n hx hb dX11_writeFar_58 rfl (lv_at hl 0 rfl) ?_
    refine lv_iload_n hx hb dX11_writeFar_59 rfl (lv_at hl 1 rfl) ?_
    refine lv_sipush (v := (8191 : Int32)) hx hb dX11_writeFar_60 (by decide) ?_
    refine lv_iand hx hb dX11_writeFar_63 ?_
    refine va_put (D := gD g) (ci := 11) (C := RX11) (T := TX11) (N := 50) (v := .int (x2 &&& (8191 : Int32))) (ty := .int) hx hb hts (fun w h => List.mem_cons_of_mem _ (isX110 w h)) tyX11 tyX11_ok nmX11 hown hK hI.1 hI.2.1 hI.2.2 0 rfl rfl 15 (by decide) (hts _ (List.mem_cons_of_mem _ mw211)) (fun _ h9 => h9) rfl (by decide +kernel) rfl rfl (Nat.le_of_ble_eq_true rfl) dX11_writeFar_64 (fun H locs hP hD hS => ?_)
    have hI : cI (gD g) vwCl (mw g) A s (sI st 5 (x2 &&& (8191 : Int32))) H locs := ⟨hP, hD, hS⟩
    exact k_m_writeFar_b67 g C (sI st 5 (x2 &&& (8191 : Int32))) x2 x3 H locs ls hI (lv_sub hl [0, 1, 2] rfl) X hF
def m_writeFar_b21 (st : CS) : CS := st
set_option maxHeartbeats 4000000 in
set_option maxRecDepth 100000 in
theorem k_m_writeFar_b21 {p : Program} {l : Launch} {e : Env} {s : State} {m : MethodId} {args : Array Value} {below : List Frame} {meth : Method} {c : Code} {A : Nat → Prop} (g : Gm) (C : cX p s m args meth c A cX11_writeFar none 4 RX11 wq_X11_writeFar (gD g) vwCl (mty g) (mz g)) (st : CS) (H : Heap) (locs : List Loc) (ls : Array Slot) (hI : cI (gD g) vwCl (mw g) A s st H locs) (hl : lv_has ls 4 [(0, .ref (gad g 0))]) (X : CS) (hF : X = m_writeFar_b21 st ) : W p l e rm_m_writeFar s m args below meth c H locs 0 0 (MQ below (cQv (gD g) vwCl (mty g) (mw g) A X) args s 0 0 A) (F0 m 21 ls []) := by
  obtain ⟨hx, hb, hr, hml, hown, hts, hlocks, hK, hA, hZ, hzo⟩ := id C
  unfold m_writeFar_b21 at hF
  refine lv_goto (tgt := 200) hx hb dX11_writeFar_21 (by decide) ?_
  exact cx_vret C hI hF dX11_writeFar_200
def m_writeFar (st : CS) (x1 : Int32) (x2 : Int32) : CS := (if ((54525952 : Int32) ≤ x1) then (if ((56623104 : Int32) ≤ x1) then (if ((58720256 : Int32) ≤ x1) then (m_writeFar_b163 (sA st 8 (upd (gA st 8) (x1 &&& (15 : Int32)).toNatClampNeg ((x1 >>> ((8 : Int32) &&& 31)) &&& (3 : Int32)))) x1 (x1 &&& (15 : Int32))) else (if ((3 : Int32) ≤ ((x1 >>> ((17 : Int32) &&& 31)) &&& (7 : Int32))) then (m_writeFar_b117 st x1 ((x1 >>> ((17 : Int32) &&& 31)) &&& (7 : Int32))) else (m_writeFar_b117 (sA st 10 (upd (gA st 10) ((x1 >>> ((17 : Int32) &&& 31)) &&& (7 : Int32)).toNatClampNeg ((x1 >>> ((2 : Int32) &&& 31)) &&& (32767 : Int32)))) x1 ((x1 >>> ((17 : Int32) &&& 31)) &&& (7 : Int32))))) else (if ((16 : Int32) ≤ (ushr x2 (26 : Int32))) then (m_writeFar_b52 st x2 (ushr x2 (26 : Int32))) else (m_writeFar_b52 (sA st 9 (upd (gA st 9) (ushr x2 (26 : Int32)).toNatClampNeg (x2 &&& (8191 : Int32)))) x2 (ushr x2 (26 : Int32))))) else (m_writeFar_b21 (m_writeDevice st ((ushr x1 (2 : Int32)) &&& (1048575 : Int32)) (x2 &&& (255 : Int32))) ))
def o_m_writeFar (st : CS) (x1 : Int32) (x2 : Int32) : Prop := ((((54525952 : Int32) ≤ x1) → ((((56623104 : Int32) ≤ x1) → ((((58720256 : Int32) ≤ x1) → (o_m_writeFar_b163 (sA st 8 (upd (gA st 8) (x1 &&& (15 : Int32)).toNatClampNeg ((x1 >>> ((8 : Int32) &&& 31)) &&& (3 : Int32)))) x1 (x1 &&& (15 : Int32)))) ∧ (¬ ((58720256 : Int32) ≤ x1) → ((((3 : Int32) ≤ ((x1 >>> ((17 : Int32) &&& 31)) &&& (7 : Int32))) → True) ∧ (¬ ((3 : Int32) ≤ ((x1 >>> ((17 : Int32) &&& 31)) &&& (7 : Int32))) → (vp_in ((x1 >>> ((17 : Int32) &&& 31)) &&& (7 : Int32)) 3 ∧ True)))))) ∧ (¬ ((56623104 : Int32) ≤ x1) → ((((16 : Int32) ≤ (ushr x2 (26 : Int32))) → True) ∧ (¬ ((16 : Int32) ≤ (ushr x2 (26 : Int32))) → (vp_in (ushr x2 (26 : Int32)) 16 ∧ True)))))) ∧ (¬ ((54525952 : Int32) ≤ x1) → ((o_m_writeDevice st ((ushr x1 (2 : Int32)) &&& (1048575 : Int32)) (x2 &&& (255 : Int32))) ∧ True)))
set_option maxHeartbeats 4000000 in
set_option maxRecDepth 100000 in
theorem k_m_writeFar {p : Program} {l : Launch} {e : Env} {s : State} {m : MethodId} {args : Array Value} {below : List Frame} {meth : Method} {c : Code} {A : Nat → Prop} (g : Gm) (C : cX p s m args meth c A cX11_writeFar none 4 RX11 wq_X11_writeFar (gD g) vwCl (mty g) (mz g)) (st : CS) (x1 : Int32) (x2 : Int32) (H : Heap) (locs : List Loc) (ls : Array Slot) (hI : cI (gD g) vwCl (mw g) A s st H locs) (hl : lv_has ls 4 [(0, .ref (gad g 0)), (1, .int x1), (2, .int x2)]) (hO : o_m_writeFar st x1 x2) (X : CS) (hF : X = m_writeFar st x1 x2) : W p l e rm_m_writeFar s m args below meth c H locs 0 0 (MQ below (cQv (gD g) vwCl (mty g) (mw g) A X) args s 0 0 A) (F0 m 0 ls []) := by
  obtain ⟨hx, hb, hr, hml, hown, hts, hlocks, hK, hA, hZ, hzo⟩ := id C
  unfold m_writeFar at hF
  unfold o_m_writeFar at hO
  refine lv_iload_n hx hb dX11_writeFar_0 rfl (lv_at hl 1 rfl) ?_
  refine lv_ldc (v := (54525952 : Int32)) hx hb hown (hts _ (List.mem_cons_of_mem _ mw881)) dX11_writeFar_1 ?_
  refine lv_icmp_ge (tgt := 24) hx hb dX11_writeFar_3 (by decide) (fun c_3 => ?_) (fun c_3 => ?_)
  · have hF := hF.trans (if_pos c_3)
    have hO := hO.1 c_3
    refine lv_iload_n hx hb dX11_writeFar_24 rfl (lv_at hl 1 rfl) ?_
    refine lv_ldc (v := (56623104 : Int32)) hx hb hown (hts _ (List.mem_cons_of_mem _ mw893)) dX11_writeFar_25 ?_
    refine lv_icmp_ge (tgt := 85) hx hb dX11_writeFar_27 (by decide) (fun c_27 => ?_) (fun c_27 => ?_)
    · have hF := hF.trans (if_pos c_27)
      have hO := hO.1 c_27
      refine lv_iload_n hx hb dX11_writeFar_85 rfl (lv_at hl 1 rfl) ?_
      refine lv_ldc (v := (58720256 : Int32)) hx hb hown (hts _ (List.mem_cons_of_mem _ mw894)) dX11_writeFar_86 ?_
      refine lv_icmp_ge (tgt := 146) hx hb dX11_writeFar_88 (by decide) (fun c_88 => ?_) (fun c_88 => ?_)
      · have hF := hF.trans (if_pos c_88)
        have hO := hO.1 c_88
        refine lv_iload_n hx hb dX11_writeFar_146 rfl (lv_at hl 1 rfl) ?_
        refine lv_bipush (v := (15 : Int32)) hx hb dX11_writeFar_147 (by decide) ?_
        refine lv_iand hx hb dX11_writeFar_149 ?_
        refine lv_istore_n (lv' := [(3, .int (x1 &&& (15 : Int32))), (0, .ref (gad g 0)), (1, .int x1), (2, .int x2)]) hx hb dX11_writeFar_150 rfl hl (by decide) rfl (fun ls hl => ?_)
        refine lv_aload_n hx hb dX11_writeFar_151 rfl (lv_at hl 1 rfl) ?_
        refine va_get (D := gD g) (ci := 11) (C := RX11) (T := TX11) (N := 50) (v := .ref (gad g 9)) hx hb hts (fun w h => List.mem_cons_of_mem _ (isX110 w h)) hown hK hI.1 0 rfl rfl 13 (by decide) (hts _ (List.mem_cons_of_mem _ mw193)) (fun _ h9 => h9) rfl dX11_writeFar_152 ?_
        refine lv_iload_n hx hb dX11_writeFar_155 rfl (lv_at hl 0 rfl) ?_
        refine lv_iload_n hx hb dX11_writeFar_156 rfl (lv_at hl 2 rfl) ?_
        refine lv_bipush (v := (8 : Int32)) hx hb dX11_writeFar_157 (by decide) ?_
        refine lv_ishr hx hb dX11_writeFar_159 ?_
        refine lv_iconst (v := (3 : Int32)) hx hb dX11_writeFar_160 (by decide) ?_
        refine lv_iand hx hb dX11_writeFar_161 ?_
        refine va_iast (f := (gA st 8)) hx hb hK hI.1 hI.2.1 hI.2.2 9 8 rfl rfl (vin_and _ 4 rfl (by decide) (by decide)) dX11_writeFar_162 (fun H locs hP hD hS => ?_)
        have hI : cI (gD g) vwCl (mw g) A s (sA st 8 (upd (gA st 8) (x1 &&& (15 : Int32)).toNatClampNeg ((x1 >>> ((8 : Int32) &&& 31)) &&& (3 : Int32)))) H locs := ⟨hP, hD, hS⟩
        exact k_m_writeFar_b163 g C (sA st 8 (upd (gA st 8) (x1 &&& (15 : Int32)).toNatClampNeg ((x1 >>> ((8 : Int32) &&& 31)) &&& (3 : Int32)))) x1 (x1 &&& (15 : Int32)) H locs ls hI (lv_sub hl [1, 2, 0] rfl) hO X hF
      · have hF := hF.trans (if_neg c_88)
        have hO := hO.2 c_88
        refine lv_iload_n hx hb dX11_writeFar_91 rfl (lv_at hl 1 rfl) ?_
        refine lv_bipush (v := (17 : Int32)) hx hb dX11_writeFar_92 (by decide) ?_
        refine lv_ishr hx hb dX11_writeFar_94 ?_
        refine lv_bipush (v := (7 : Int32)) hx hb dX11_writeFar_95 (by decide) ?_
        refine lv_iand hx hb dX11_writeFar_97 ?_
        refine lv_istore_n (lv' := [(3, .int ((x1 >>> ((17 : Int32) &&& 31)) &&& (7 : Int32))), (0, .ref (gad g 0)), (1, .int x1), (2, .int x2)]) hx hb dX11_writeFar_98 rfl hl (by decide) rfl (fun ls hl => ?_)
        refine lv_iload_n hx hb dX11_writeFar_99 rfl (lv_at hl 0 rfl) ?_
        refine lv_iconst (v := (3 : Int32)) hx hb dX11_writeFar_100 (by decide) ?_
        refine lv_icmp_ge (tgt := 117) hx hb dX11_writeFar_101 (by decide) (fun c_101 => ?_) (fun c_101 => ?_)
        · have hF := hF.trans (if_pos c_101)
          have hO := hO.1 c_101
          exact k_m_writeFar_b117 g C st x1 ((x1 >>> ((17 : Int32) &&& 31)) &&& (7 : Int32)) H locs ls hI (lv_sub hl [1, 2, 0] rfl) X hF
        · have hF := hF.trans (if_neg c_101)
          have hO := hO.2 c_101
          refine lv_aload_n hx hb dX11_writeFar_104 rfl (lv_at hl 1 rfl) ?_
          refine va_get (D := gD g) (ci := 11) (C := RX11) (T := TX11) (N := 50) (v := .ref (gad g 11)) hx hb hts (fun w h => List.mem_cons_of_mem _ (isX110 w h)) hown hK hI.1 0 rfl rfl 19 (by decide) (hts _ (List.mem_cons_of_mem _ mw195)) (fun _ h9 => h9) rfl dX11_writeFar_105 ?_
          refine lv_iload_n hx hb dX11_writeFar_108 rfl (lv_at hl 0 rfl) ?_
          refine lv_iload_n hx hb dX11_writeFar_109 rfl (lv_at hl 2 rfl) ?_
          refine lv_iconst (v := (2 : Int32)) hx hb dX11_writeFar_110 (by decide) ?_
          refine lv_ishr hx hb dX11_writeFar_111 ?_
          refine lv_sipush (v := (32767 : Int32)) hx hb dX11_writeFar_112 (by decide) ?_
          refine lv_iand hx hb dX11_writeFar_115 ?_
          have hq_116_0 := hO.1
          have hO := hO.2
          refine va_iast (f := (gA st 10)) hx hb hK hI.1 hI.2.1 hI.2.2 11 10 rfl rfl hq_116_0 dX11_writeFar_116 (fun H locs hP hD hS => ?_)
          have hI : cI (gD g) vwCl (mw g) A s (sA st 10 (upd (gA st 10) ((x1 >>> ((17 : Int32) &&& 31)) &&& (7 : Int32)).toNatClampNeg ((x1 >>> ((2 : Int32) &&& 31)) &&& (32767 : Int32)))) H locs := ⟨hP, hD, hS⟩
          exact k_m_writeFar_b117 g C (sA st 10 (upd (gA st 10) ((x1 >>> ((17 : Int32) &&& 31)) &&& (7 : Int32)).toNatClampNeg ((x1 >>> ((2 : Int32) &&& 31)) &&& (32767 : Int32)))) x1 ((x1 >>> ((17 : Int32) &&& 31)) &&& (7 : Int32)) H locs ls hI (lv_sub hl [1, 2, 0] rfl) X hF
    · have hF := hF.trans (if_neg c_27)
      have hO := hO.2 c_27
      refine lv_iload_n hx hb dX11_writeFar_30 rfl (lv_at hl 2 rfl) ?_
      refine lv_bipush (v := (26 : Int32)) hx hb dX11_writeFar_31 (by decide) ?_
      refine lv_iushr (v := (ushr x2 (26 : Int32))) hx hb dX11_writeFar_33 rfl ?_
      refine lv_istore_n (lv' := [(3, .int (ushr x2 (26 : Int32))), (0, .ref (gad g 0)), (1, .int x1), (2, .int x2)]) hx hb dX11_writeFar_34 rfl hl (by decide) rfl (fun ls hl => ?_)
      refine lv_iload_n hx hb dX11_writeFar_35 rfl (lv_at hl 0 rfl) ?_
      refine lv_bipush (v := (16 : Int32)) hx hb dX11_writeFar_36 (by decide) ?_
      refine lv_icmp_ge (tgt := 52) hx hb dX11_writeFar_38 (by decide) (fun c_38 => ?_) (fun c_38 => ?_)
      · have hF := hF.trans (if_pos c_38)
        have hO := hO.1 c_38
        exact k_m_writeFar_b52 g C st x2 (ushr x2 (26 : Int32)) H locs ls hI (lv_sub hl [1, 3, 0] rfl) X hF
      · have hF := hF.trans (if_neg c_38)
        have hO := hO.2 c_38
        refine lv_aload_n hx hb dX11_writeFar_41 rfl (lv_at hl 1 rfl) ?_
        refine va_get (D := gD g) (ci := 11) (C := RX11) (T := TX11) (N := 50) (v := .ref (gad g 10)) hx hb hts (fun w h => List.mem_cons_of_mem _ (isX110 w h)) hown hK hI.1 0 rfl rfl 14 (by decide) (hts _ (List.mem_cons_of_mem _ mw194)) (fun _ h9 => h9) rfl dX11_writeFar_42 ?_
        refine lv_iload_n hx hb dX11_writeFar_45 rfl (lv_at hl 0 rfl) ?_
        refine lv_iload_n hx hb dX11_writeFar_46 rfl (lv_at hl 3 rfl) ?_
        refine lv_sipush (v := (8191 : Int32)) hx hb dX11_writeFar_47 (by decide) ?_
        refine lv_iand hx hb dX11_writeFar_50 ?_
        have hq_51_0 := hO.1
        have hO := hO.2
        refine va_iast (f := (gA st 9)) hx hb hK hI.1 hI.2.1 hI.2.2 10 9 rfl rfl hq_51_0 dX11_writeFar_51 (fun H locs hP hD hS => ?_)
        have hI : cI (gD g) vwCl (mw g) A s (sA st 9 (upd (gA st 9) (ushr x2 (26 : Int32)).toNatClampNeg (x2 &&& (8191 : Int32)))) H locs := ⟨hP, hD, hS⟩
        exact k_m_writeFar_b52 g C (sA st 9 (upd (gA st 9) (ushr x2 (26 : Int32)).toNatClampNeg (x2 &&& (8191 : Int32)))) x2 (ushr x2 (26 : Int32)) H locs ls hI (lv_sub hl [1, 3, 0] rfl) X hF
  · have hF := hF.trans (if_neg c_3)
    have hO := hO.2 c_3
    refine lv_aload_n hx hb dX11_writeFar_6 rfl (lv_at hl 0 rfl) ?_
    refine lv_iload_n hx hb dX11_writeFar_7 rfl (lv_at hl 1 rfl) ?_
    refine lv_iconst (v := (2 : Int32)) hx hb dX11_writeFar_8 (by decide) ?_
    refine lv_iushr (v := (ushr x1 (2 : Int32))) hx hb dX11_writeFar_9 rfl ?_
    refine lv_ldc (v := (1048575 : Int32)) hx hb hown (hts _ (List.mem_cons_of_mem _ mw882)) dX11_writeFar_10 ?_
    refine lv_iand hx hb dX11_writeFar_12 ?_
    refine lv_iload_n hx hb dX11_writeFar_13 rfl (lv_at hl 2 rfl) ?_
    refine lv_sipush (v := (255 : Int32)) hx hb dX11_writeFar_14 (by decide) ?_
    refine lv_iand hx hb dX11_writeFar_17 ?_
    have hq_18_0 := hO.1
    have hO := hO.2
    refine cx_Vv (As := [.int ((ushr x1 (2 : Int32)) &&& (1048575 : Int32)), .int (x2 &&& (255 : Int32))]) (rest := []) C (c_m_writeDevice l g st ((ushr x1 (2 : Int32)) &&& (1048575 : Int32)) (x2 &&& (255 : Int32)) hq_18_0) (cwV 2 hts (gd_V _ mw895 mw896 mw897 mw3 mw898) rfl rfl rfl yd_yX11_writeDevice ⟨Nat.le_of_ble_eq_true rfl, Nat.le_of_ble_eq_true rfl⟩) (va_recv hK hI.1 (ci := 11) (q0 := 0) rfl rfl) hI rfl hl.1 rfl (Nat.le_of_ble_eq_true rfl) dX11_writeFar_18 (fun H locs hI => ?_)
    exact k_m_writeFar_b21 g C (m_writeDevice st ((ushr x1 (2 : Int32)) &&& (1048575 : Int32)) (x2 &&& (255 : Int32)))  H locs ls hI (lv_sub hl [0] rfl) X hF
set_option maxHeartbeats 4000000 in
set_option maxRecDepth 100000 in
theorem c_m_writeFar (l : Launch) (g : Gm) (st : CS) (x1 : Int32) (x2 : Int32) (hO : o_m_writeFar st x1 x2) : Mv l yX11_writeFar wq_X11_writeFar rm_m_writeFar (gD g) vwCl (mty g) (mw g) (mz g) [.ref (gad g 0), .int x1, .int x2] st (m_writeFar st x1 x2) := by
  intro sz
  refine Met.ofW (cc := cX11_writeFar) (maxL := 4) (ret := none) (by decide) rfl ?_
  intro p e s m args below meth c s₁ B hml hv
  obtain ⟨rfl, hsz, hP, hK, hD0, hZ⟩ := hv
  subst hsz
  have hl := lv_entry ([.ref (gad g 0), .int x1, .int x2]) (n := 4) (Nat.le_of_ble_eq_true rfl)
  rw [lg_entry_eq]
  generalize (lg_sl ([.ref (gad g 0), .int x1, .int x2]) ++ List.replicate (4 - (lg_sl ([.ref (gad g 0), .int x1, .int x2])).length) Slot.unset).toArray = ls at hl ⊢
  exact k_m_writeFar g ⟨B.exec, B.bytes, B.returns, hml, findClass_of_methodNamed B.named, atoms_spec (ws := wq_X11_writeFar) B.pre, B.notSynchronized, hK, fun q h => Or.inr h, hZ, mz_ok g⟩ st x1 x2 _ _ ls ⟨hP, hD0.self, va_S.rf⟩ hl hO _ rfl
abbrev wq_X11_irqLine : List Cond := .code yX11_irqLine cX11_irqLine 1 (some .boolean) :: wAll
theorem yd_yX11_irqLine : yX11_irqLine.cls = RX11 ∧ yX11_irqLine.cls ≠ "java/lang/invoke/MethodHandle" ∧ yX11_irqLine.cls ≠ "java/lang/invoke/VarHandle" ∧ (parseMethodDescriptor yX11_irqLine.desc).map (fun d => d.parameters.length) = some 0 := by decide +kernel
abbrev rm_m_irqLine : Room := { frames := 1, cells := 0, slots := 0, locals := 20 }
def m_irqLine_b24 (st : CS) : Int32 := (1 : Int32)
set_option maxHeartbeats 4000000 in
set_option maxRecDepth 100000 in
theorem k_m_irqLine_b24 {p : Program} {l : Launch} {e : Env} {s : State} {m : MethodId} {args : Array Value} {below : List Frame} {meth : Method} {c : Code} {A : Nat → Prop} (g : Gm) (C : cX p s m args meth c A cX11_irqLine (some .boolean) 1 RX11 wq_X11_irqLine (gD g) vwCl (mty g) (mz g)) (st : CS) (H : Heap) (locs : List Loc) (ls : Array Slot) (hI : cI (gD g) vwCl (mw g) A s st H locs) (hl : lv_has ls 1 [(0, .ref (gad g 0))]) (X : Int32) (hF : X = m_irqLine_b24 st ) : W p l e rm_m_irqLine s m args below meth c H locs 0 0 (MQ below (cQi (gD g) vwCl (mty g) (mw g) A st X) args s 0 0 A) (F0 m 24 ls []) := by
  obtain ⟨hx, hb, hr, hml, hown, hts, hlocks, hK, hA, hZ, hzo⟩ := id C
  unfold m_irqLine_b24 at hF
  refine lv_iconst (v := (1 : Int32)) hx hb dX11_irqLine_24 (by decide) ?_
  refine lv_goto (tgt := 29) hx hb dX11_irqLine_25 (by decide) ?_
  exact cx_zret C hI rfl hF rfl dX11_irqLine_29
def m_irqLine (st : CS) : Int32 := (if (((m_statusA st) &&& (gI st 10)) = 0) then (if (((m_statusB st) &&& (gI st 11)) = 0) then (0 : Int32) else (m_irqLine_b24 st )) else (m_irqLine_b24 st ))
set_option maxHeartbeats 4000000 in
set_option maxRecDepth 100000 in
theorem k_m_irqLine {p : Program} {l : Launch} {e : Env} {s : State} {m : MethodId} {args : Array Value} {below : List Frame} {meth : Method} {c : Code} {A : Nat → Prop} (g : Gm) (C : cX p s m args meth c A cX11_irqLine (some .boolean) 1 RX11 wq_X11_irqLine (gD g) vwCl (mty g) (mz g)) (st : CS) (H : Heap) (locs : List Loc) (ls : Array Slot) (hI : cI (gD g) vwCl (mw g) A s st H locs) (hl : lv_has ls 1 [(0, .ref (gad g 0))]) (X : Int32) (hF : X = m_irqLine st) : W p l e rm_m_irqLine s m args below meth c H locs 0 0 (MQ below (cQi (gD g) vwCl (mty g) (mw g) A st X) args s 0 0 A) (F0 m 0 ls []) := by
  obtain ⟨hx, hb, hr, hml, hown, hts, hlocks, hK, hA, hZ, hzo⟩ := id C
  unfold m_irqLine at hF
  refine lv_aload_n hx hb dX11_irqLine_0 rfl (lv_at hl 0 rfl) ?_
  refine cx_Vi (As := []) (rest := []) C (c_m_statusA l g st ) (cwV 0 hts (gd_V _ mw788 mw789 mw790 mw3 mw791) rfl rfl rfl yd_yX11_statusA ⟨Nat.le_of_ble_eq_true rfl, Nat.le_of_ble_eq_true rfl⟩) (va_recv hK hI.1 (ci := 11) (q0 := 0) rfl rfl) hI rfl hl.1 rfl (Nat.le_of_ble_eq_true rfl) dX11_irqLine_1 (fun H locs hI => ?_)
  refine lv_aload_n hx hb dX11_irqLine_4 rfl (lv_at hl 0 rfl) ?_
  refine va_get (D := gD g) (ci := 11) (C := RX11) (T := TX11) (N := 50) (v := .int (gI st 10)) hx hb hts (fun w h => List.mem_cons_of_mem _ (isX110 w h)) hown hK hI.1 0 rfl rfl 27 (by decide) (hts _ (List.mem_cons_of_mem _ mw217)) (fun _ h9 => h9) rfl dX11_irqLine_5 ?_
  refine lv_iand hx hb dX11_irqLine_8 ?_
  refine lv_if_ne (tgt := 24) hx hb dX11_irqLine_9 (by decide) (fun c_9 => ?_) (fun c_9 => ?_)
  · have hF := hF.trans (if_neg c_9)
    exact k_m_irqLine_b24 g C st  H locs ls hI (lv_sub hl [0] rfl) X hF
  · have hF := hF.trans (if_pos c_9)
    refine lv_aload_n hx hb dX11_irqLine_12 rfl (lv_at hl 0 rfl) ?_
    refine cx_Vi (As := []) (rest := []) C (c_m_statusB l g st ) (cwV 0 hts (gd_V _ mw792 mw793 mw794 mw3 mw795) rfl rfl rfl yd_yX11_statusB ⟨Nat.le_of_ble_eq_true rfl, Nat.le_of_ble_eq_true rfl⟩) (va_recv hK hI.1 (ci := 11) (q0 := 0) rfl rfl) hI rfl hl.1 rfl (Nat.le_of_ble_eq_true rfl) dX11_irqLine_13 (fun H locs hI => ?_)
    refine lv_aload_n hx hb dX11_irqLine_16 rfl (lv_at hl 0 rfl) ?_
    refine va_get (D := gD g) (ci := 11) (C := RX11) (T := TX11) (N := 50) (v := .int (gI st 11)) hx hb hts (fun w h => List.mem_cons_of_mem _ (isX110 w h)) hown hK hI.1 0 rfl rfl 28 (by decide) (hts _ (List.mem_cons_of_mem _ mw218)) (fun _ h9 => h9) rfl dX11_irqLine_17 ?_
    refine lv_iand hx hb dX11_irqLine_20 ?_
    refine lv_if_eq (tgt := 28) hx hb dX11_irqLine_21 (by decide) (fun c_21 => ?_) (fun c_21 => ?_)
    · have hF := hF.trans (if_pos c_21)
      refine lv_iconst (v := (0 : Int32)) hx hb dX11_irqLine_28 (by decide) ?_
      exact cx_zret C hI rfl hF rfl dX11_irqLine_29
    · have hF := hF.trans (if_neg c_21)
      exact k_m_irqLine_b24 g C st  H locs ls hI (lv_sub hl [0] rfl) X hF
set_option maxHeartbeats 4000000 in
set_option maxRecDepth 100000 in
theorem c_m_irqLine (l : Launch) (g : Gm) (st : CS) : Mi l yX11_irqLine wq_X11_irqLine rm_m_irqLine (gD g) vwCl (mty g) (mw g) (mz g) [.ref (gad g 0)] st st (m_irqLine st) := by
  intro sz
  refine Met.ofW (cc := cX11_irqLine) (maxL := 1) (ret := (some .boolean)) (by decide) rfl ?_
  intro p e s m args below meth c s₁ B hml hv
  obtain ⟨rfl, hsz, hP, hK, hD0, hZ⟩ := hv
  subst hsz
  have hl := lv_entry ([.ref (gad g 0)]) (n := 1) (Nat.le_of_ble_eq_true rfl)
  rw [lg_entry_eq]
  generalize (lg_sl ([.ref (gad g 0)]) ++ List.replicate (1 - (lg_sl ([.ref (gad g 0)])).length) Slot.unset).toArray = ls at hl ⊢
  exact k_m_irqLine g ⟨B.exec, B.bytes, B.returns, hml, findClass_of_methodNamed B.named, atoms_spec (ws := wq_X11_irqLine) B.pre, B.notSynchronized, hK, fun q h => Or.inr h, hZ, mz_ok g⟩ st  _ _ ls ⟨hP, hD0.self, va_S.rf⟩ hl _ rfl
abbrev wq_X11_fiqLine : List Cond := .code yX11_fiqLine cX11_fiqLine 1 (some .boolean) :: wAll
theorem yd_yX11_fiqLine : yX11_fiqLine.cls = RX11 ∧ yX11_fiqLine.cls ≠ "java/lang/invoke/MethodHandle" ∧ yX11_fiqLine.cls ≠ "java/lang/invoke/VarHandle" ∧ (parseMethodDescriptor yX11_fiqLine.desc).map (fun d => d.parameters.length) = some 0 := by decide +kernel
abbrev rm_m_fiqLine : Room := { frames := 1, cells := 0, slots := 0, locals := 20 }
def m_fiqLine (st : CS) : Int32 := (if (((m_statusF st) &&& (gI st 12)) = 0) then (0 : Int32) else (1 : Int32))
set_option maxHeartbeats 4000000 in
set_option maxRecDepth 100000 in
theorem k_m_fiqLine {p : Program} {l : Launch} {e : Env} {s : State} {m : MethodId} {args : Array Value} {below : List Frame} {meth : Method} {c : Code} {A : Nat → Prop} (g : Gm) (C : cX p s m args meth c A cX11_fiqLine (some .boolean) 1 RX11 wq_X11_fiqLine (gD g) vwCl (mty g) (mz g)) (st : CS) (H : Heap) (locs : List Loc) (ls : Array Slot) (hI : cI (gD g) vwCl (mw g) A s st H locs) (hl : lv_has ls 1 [(0, .ref (gad g 0))]) (X : Int32) (hF : X = m_fiqLine st) : W p l e rm_m_fiqLine s m args below meth c H locs 0 0 (MQ below (cQi (gD g) vwCl (mty g) (mw g) A st X) args s 0 0 A) (F0 m 0 ls []) := by
  obtain ⟨hx, hb, hr, hml, hown, hts, hlocks, hK, hA, hZ, hzo⟩ := id C
  unfold m_fiqLine at hF
  refine lv_aload_n hx hb dX11_fiqLine_0 rfl (lv_at hl 0 rfl) ?_
  refine cx_Vi (As := []) (rest := []) C (c_m_statusF l g st ) (cwV 0 hts (gd_V _ mw757 mw758 mw759 mw3 mw760) rfl rfl rfl yd_yX11_statusF ⟨Nat.le_of_ble_eq_true rfl, Nat.le_of_ble_eq_true rfl⟩) (va_recv hK hI.1 (ci := 11) (q0 := 0) rfl rfl) hI rfl hl.1 rfl (Nat.le_of_ble_eq_true rfl) dX11_fiqLine_1 (fun H locs hI => ?_)
  refine lv_aload_n hx hb dX11_fiqLine_4 rfl (lv_at hl 0 rfl) ?_
  refine va_get (D := gD g) (ci := 11) (C := RX11) (T := TX11) (N := 50) (v := .int (gI st 12)) hx hb hts (fun w h => List.mem_cons_of_mem _ (isX110 w h)) hown hK hI.1 0 rfl rfl 29 (by decide) (hts _ (List.mem_cons_of_mem _ mw219)) (fun _ h9 => h9) rfl dX11_fiqLine_5 ?_
  refine lv_iand hx hb dX11_fiqLine_8 ?_
  refine lv_if_eq (tgt := 16) hx hb dX11_fiqLine_9 (by decide) (fun c_9 => ?_) (fun c_9 => ?_)
  · have hF := hF.trans (if_pos c_9)
    refine lv_iconst (v := (0 : Int32)) hx hb dX11_fiqLine_16 (by decide) ?_
    exact cx_zret C hI rfl hF rfl dX11_fiqLine_17
  · have hF := hF.trans (if_neg c_9)
    refine lv_iconst (v := (1 : Int32)) hx hb dX11_fiqLine_12 (by decide) ?_
    refine lv_goto (tgt := 17) hx hb dX11_fiqLine_13 (by decide) ?_
    exact cx_zret C hI rfl hF rfl dX11_fiqLine_17
set_option maxHeartbeats 4000000 in
set_option maxRecDepth 100000 in
theorem c_m_fiqLine (l : Launch) (g : Gm) (st : CS) : Mi l yX11_fiqLine wq_X11_fiqLine rm_m_fiqLine (gD g) vwCl (mty g) (mw g) (mz g) [.ref (gad g 0)] st st (m_fiqLine st) := by
  intro sz
  refine Met.ofW (cc := cX11_fiqLine) (maxL := 1) (ret := (some .boolean)) (by decide) rfl ?_
  intro p e s m args below meth c s₁ B hml hv
  obtain ⟨rfl, hsz, hP, hK, hD0, hZ⟩ := hv
  subst hsz
  have hl := lv_entry ([.ref (gad g 0)]) (n := 1) (Nat.le_of_ble_eq_true rfl)
  rw [lg_entry_eq]
  generalize (lg_sl ([.ref (gad g 0)]) ++ List.replicate (1 - (lg_sl ([.ref (gad g 0)])).length) Slot.unset).toArray = ls at hl ⊢
  exact k_m_fiqLine g ⟨B.exec, B.bytes, B.returns, hml, findClass_of_methodNamed B.named, atoms_spec (ws := wq_X11_fiqLine) B.pre, B.notSynchronized, hK, fun q h => Or.inr h, hZ, mz_ok g⟩ st  _ _ ls ⟨hP, hD0.self, va_S.rf⟩ hl _ rfl
abbrev wq_X11_copy : List Cond := .code yX11_copy cX11_copy 4 none :: wAll
theorem yd_yX11_copy : yX11_copy.cls = RX11 ∧ yX11_copy.cls ≠ "java/lang/invoke/MethodHandle" ∧ yX11_copy.cls ≠ "java/lang/invoke/VarHandle" ∧ (parseMethodDescriptor yX11_copy.desc).map (fun d => d.parameters.length) = some 0 := by decide +kernel
abbrev rm_m_copy : Room := { frames := 0, cells := 0, slots := 0, locals := 0 }
def m_copy_b66 (rec : CS → Int32 → Option (CS)) (st : CS) (x1 : Int32) : Option (CS) := (rec st (x1 + (1 : Int32)))
def o_m_copy_b66 (orec : CS → Int32 → Prop) (st : CS) (x1 : Int32) : Prop := (orec st (x1 + (1 : Int32)))
set_option maxHeartbeats 4000000 in
set_option maxRecDepth 100000 in
theorem k_m_copy_b66 {p : Program} {l : Launch} {e : Env} {s : State} {m : MethodId} {args : Array Value} {below : List Frame} {meth : Method} {c : Code} {A : Nat → Prop} (g : Gm) (C : cX p s m args meth c A cX11_copy none 4 RX11 wq_X11_copy (gD g) vwCl (mty g) (mz g)) (rec : CS → Int32 → Option (CS)) (orec : CS → Int32 → Prop) (hrec : ∀ (st : CS) (x1 : Int32) (H : Heap) (locs : List Loc) (ls : Array Slot), cI (gD g) vwCl (mw g) A s st H locs → lv_has ls 4 [(0, .ref (gad g 0)), (1, .int x1)] → orec st x1 → ∀ (X : CS), some X = rec st x1 → W p l e rm_m_copy s m args below meth c H locs 0 0 (MQ below (cQv (gD g) vwCl (mty g) (mw g) A X) args s 0 0 A) (F0 m 2 ls [])) (st : CS) (x1 : Int32) (H : Heap) (locs : List Loc) (ls : Array Slot) (hI : cI (gD g) vwCl (mw g) A s st H locs) (hl : lv_has ls 4 [(0, .ref (gad g 0)), (1, .int x1)]) (hO : o_m_copy_b66 orec st x1) (X : CS) (hF : some X = m_copy_b66 rec st x1) : W p l e rm_m_copy s m args below meth c H locs 0 0 (MQ below (cQv (gD g) vwCl (mty g) (mw g) A X) args s 0 0 A) (F0 m 66 ls []) := by
  obtain ⟨hx, hb, hr, hml, hown, hts, hlocks, hK, hA, hZ, hzo⟩ := id C
  unfold m_copy_b66 at hF
  unfold o_m_copy_b66 at hO
  refine lv_iinc (v := (x1 + (1 : Int32))) (lv' := [(1, .int (x1 + (1 : Int32))), (0, .ref (gad g 0))]) hx hb dX11_copy_66 hl (k := 1) rfl rfl (by decide) rfl (fun ls hl => ?_)
  refine lv_goto (tgt := 2) hx hb dX11_copy_69 (by decide) ?_
  exact hrec st (x1 + (1 : Int32)) H locs ls hI (lv_sub hl [1, 0] rfl) hO X hF
def m_copy_b2 : Nat → CS → Int32 → Option (CS)
  | 0, _, _ => none
  | n + 1, st, x1 => (if ((1024 : Int32) ≤ x1) then (some (sL (sI st 23 (1 : Int32)) 6 ((gL st 6) + (1024 : Int64)))) else (if ((gI st 19) = (1 : Int32)) then (m_copy_b66 (m_copy_b2 n) (sA st 5 (upd (gA st 5) (((1024 : Int32) * (gI st 21)) + x1).toNatClampNeg ((gA st 6) (((1024 : Int32) * (gI st 20)) + x1).toNatClampNeg))) x1) else (m_copy_b66 (m_copy_b2 n) (sA st 6 (upd (gA st 6) (((1024 : Int32) * (gI st 20)) + x1).toNatClampNeg ((gA st 5) (((1024 : Int32) * (gI st 21)) + x1).toNatClampNeg))) x1)))
def o_m_copy_b2 : Nat → CS → Int32 → Prop
  | 0, _, _ => True
  | n + 1, st, x1 => ((((1024 : Int32) ≤ x1) → True) ∧ (¬ ((1024 : Int32) ≤ x1) → ((((gI st 19) = (1 : Int32)) → (vp_in (((1024 : Int32) * (gI st 20)) + x1) 16384 ∧ (vp_in (((1024 : Int32) * (gI st 21)) + x1) 16384 ∧ (o_m_copy_b66 (o_m_copy_b2 n) (sA st 5 (upd (gA st 5) (((1024 : Int32) * (gI st 21)) + x1).toNatClampNeg ((gA st 6) (((1024 : Int32) * (gI st 20)) + x1).toNatClampNeg))) x1)))) ∧ (¬ ((gI st 19) = (1 : Int32)) → (vp_in (((1024 : Int32) * (gI st 21)) + x1) 16384 ∧ (vp_in (((1024 : Int32) * (gI st 20)) + x1) 16384 ∧ (o_m_copy_b66 (o_m_copy_b2 n) (sA st 6 (upd (gA st 6) (((1024 : Int32) * (gI st 20)) + x1).toNatClampNeg ((gA st 5) (((1024 : Int32) * (gI st 21)) + x1).toNatClampNeg))) x1)))))))
set_option maxHeartbeats 4000000 in
set_option maxRecDepth 100000 in
theorem k_m_copy_b2 {p : Program} {l : Launch} {e : Env} {s : State} {m : MethodId} {args : Array Value} {below : List Frame} {meth : Method} {c : Code} {A : Nat → Prop} (g : Gm) (C : cX p s m args meth c A cX11_copy none 4 RX11 wq_X11_copy (gD g) vwCl (mty g) (mz g)) : ∀ (n : Nat) (st : CS) (x1 : Int32) (H : Heap) (locs : List Loc) (ls : Array Slot), cI (gD g) vwCl (mw g) A s st H locs → lv_has ls 4 [(0, .ref (gad g 0)), (1, .int x1)] → o_m_copy_b2 n st x1 → ∀ (X : CS), some X = m_copy_b2 n st x1 → W p l e rm_m_copy s m args below meth c H locs 0 0 (MQ below (cQv (gD g) vwCl (mty g) (mw g) A X) args s 0 0 A) (F0 m 2 ls []) := by
  obtain ⟨hx, hb, hr, hml, hown, hts, hlocks, hK, hA, hZ, hzo⟩ := id C
  intro n
  induction n with
  | zero => intro st x1 H locs ls hI hl hO X hF; exact absurd hF (by simp [m_copy_b2])
  | succ n ih =>
    intro st x1 H locs ls hI hl hO X hF
    rw [m_copy_b2] at hF
    rw [o_m_copy_b2] at hO
    refine lv_iload_n hx hb dX11_copy_2 rfl (lv_at hl 1 rfl) ?_
    refine lv_sipush (v := (1024 : Int32)) hx hb dX11_copy_3 (by decide) ?_
    refine lv_icmp_ge (tgt := 72) hx hb dX11_copy_6 (by decide) (fun c_6 => ?_) (fun c_6 => ?_)
    · have hF := hF.trans (if_pos c_6)
      have hO := hO.1 c_6
      refine lv_aload_n hx hb dX11_copy_72 rfl (lv_at hl 0 rfl) ?_
      refine lv_dup hx hb dX11_copy_73 rfl ?_
      refine va_get (D := gD g) (ci := 11) (C := RX11) (T := TX11) (N := 50) (v := .long (gL st 6)) hx hb hts (fun w h => List.mem_cons_of_mem _ (isX110 w h)) hown hK hI.1 0 rfl rfl 49 (by decide) (hts _ (List.mem_cons_of_mem _ mw932)) (fun _ h9 => h9) rfl dX11_copy_74 ?_
      refine lv_ldc2 (v := (1024 : Int64)) hx hb hown (hts _ (List.mem_cons_of_mem _ mw933)) dX11_copy_77 ?_
      refine lv_ladd hx hb dX11_copy_80 ?_
      refine va_put (D := gD g) (ci := 11) (C := RX11) (T := TX11) (N := 50) (v := .long ((gL st 6) + (1024 : Int64))) (ty := .long) hx hb hts (fun w h => List.mem_cons_of_mem _ (isX110 w h)) tyX11 tyX11_ok nmX11 hown hK hI.1 hI.2.1 hI.2.2 0 rfl rfl 49 (by decide) (hts _ (List.mem_cons_of_mem _ mw932)) (fun _ h9 => h9) rfl (by decide +kernel) rfl rfl (Nat.le_of_ble_eq_true rfl) dX11_copy_81 (fun H locs hP hD hS => ?_)
      have hI : cI (gD g) vwCl (mw g) A s (sL st 6 ((gL st 6) + (1024 : Int64))) H locs := ⟨hP, hD, hS⟩
      refine lv_aload_n hx hb dX11_copy_84 rfl (lv_at hl 0 rfl) ?_
      refine lv_iconst (v := (1 : Int32)) hx hb dX11_copy_85 (by decide) ?_
      refine va_put (D := gD g) (ci := 11) (C := RX11) (T := TX11) (N := 50) (v := .int (1 : Int32)) (ty := .boolean) hx hb hts (fun w h => List.mem_cons_of_mem _ (isX110 w h)) tyX11 tyX11_ok nmX11 hown hK hI.1 hI.2.1 hI.2.2 0 rfl rfl 40 (by decide) (hts _ (List.mem_cons_of_mem _ mw228)) (fun _ h9 => h9) rfl (by decide +kernel) rfl rfl (Nat.le_of_ble_eq_true rfl) dX11_copy_86 (fun H locs hP hD hS => ?_)
      have hI : cI (gD g) vwCl (mw g) A s (sL (sI st 23 (1 : Int32)) 6 ((gL st 6) + (1024 : Int64))) H locs := ⟨hP, hD, hS⟩
      have hF := Option.some.inj hF
      exact cx_vret C hI hF dX11_copy_89
    · have hF := hF.trans (if_neg c_6)
      have hO := hO.2 c_6
      refine lv_sipush (v := (1024 : Int32)) hx hb dX11_copy_9 (by decide) ?_
      refine lv_aload_n hx hb dX11_copy_12 rfl (lv_at hl 0 rfl) ?_
      refine va_get (D := gD g) (ci := 11) (C := RX11) (T := TX11) (N := 50) (v := .int (gI st 21)) hx hb hts (fun w h => List.mem_cons_of_mem _ (isX110 w h)) hown hK hI.1 0 rfl rfl 38 (by decide) (hts _ (List.mem_cons_of_mem _ mw906)) (fun _ h9 => h9) rfl dX11_copy_13 ?_
      refine lv_imul hx hb dX11_copy_16 ?_
      refine lv_iload_n hx hb dX11_copy_17 rfl (lv_at hl 1 rfl) ?_
      refine lv_iadd hx hb dX11_copy_18 ?_
      refine lv_istore_n (lv' := [(2, .int (((1024 : Int32) * (gI st 21)) + x1)), (0, .ref (gad g 0)), (1, .int x1)]) hx hb dX11_copy_19 rfl hl (by decide) rfl (fun ls hl => ?_)
      refine lv_sipush (v := (1024 : Int32)) hx hb dX11_copy_20 (by decide) ?_
      refine lv_aload_n hx hb dX11_copy_23 rfl (lv_at hl 1 rfl) ?_
      refine va_get (D := gD g) (ci := 11) (C := RX11) (T := TX11) (N := 50) (v := .int (gI st 20)) hx hb hts (fun w h => List.mem_cons_of_mem _ (isX110 w h)) hown hK hI.1 0 rfl rfl 37 (by decide) (hts _ (List.mem_cons_of_mem _ mw905)) (fun _ h9 => h9) rfl dX11_copy_24 ?_
      refine lv_imul hx hb dX11_copy_27 ?_
      refine lv_iload_n hx hb dX11_copy_28 rfl (lv_at hl 2 rfl) ?_
      refine lv_iadd hx hb dX11_copy_29 ?_
      refine lv_istore_n (lv' := [(3, .int (((1024 : Int32) * (gI st 20)) + x1)), (2, .int (((1024 : Int32) * (gI st 21)) + x1)), (0, .ref (gad g 0)), (1, .int x1)]) hx hb dX11_copy_30 rfl hl (by decide) rfl (fun ls hl => ?_)
      refine lv_aload_n hx hb dX11_copy_31 rfl (lv_at hl 2 rfl) ?_
      refine va_get (D := gD g) (ci := 11) (C := RX11) (T := TX11) (N := 50) (v := .int (gI st 19)) hx hb hts (fun w h => List.mem_cons_of_mem _ (isX110 w h)) hown hK hI.1 0 rfl rfl 36 (by decide) (hts _ (List.mem_cons_of_mem _ mw226)) (fun _ h9 => h9) rfl dX11_copy_32 ?_
      refine lv_iconst (v := (1 : Int32)) hx hb dX11_copy_35 (by decide) ?_
      refine lv_icmp_ne (tgt := 54) hx hb dX11_copy_36 (by decide) (fun c_36 => ?_) (fun c_36 => ?_)
      · have hF := hF.trans (if_neg c_36)
        have hO := hO.2 c_36
        refine lv_aload_n hx hb dX11_copy_54 rfl (lv_at hl 2 rfl) ?_
        refine va_get (D := gD g) (ci := 11) (C := RX11) (T := TX11) (N := 50) (v := .ref (gad g 7)) hx hb hts (fun w h => List.mem_cons_of_mem _ (isX110 w h)) hown hK hI.1 0 rfl rfl 11 (by decide) (hts _ (List.mem_cons_of_mem _ mw191)) (fun _ h9 => h9) rfl dX11_copy_55 ?_
        refine lv_iload_n hx hb dX11_copy_58 rfl (lv_at hl 0 rfl) ?_
        refine lv_aload_n hx hb dX11_copy_59 rfl (lv_at hl 2 rfl) ?_
        refine va_get (D := gD g) (ci := 11) (C := RX11) (T := TX11) (N := 50) (v := .ref (gad g 6)) hx hb hts (fun w h => List.mem_cons_of_mem _ (isX110 w h)) hown hK hI.1 0 rfl rfl 10 (by decide) (hts _ (List.mem_cons_of_mem _ mw190)) (fun _ h9 => h9) rfl dX11_copy_60 ?_
        refine lv_iload_n hx hb dX11_copy_63 rfl (lv_at hl 1 rfl) ?_
        have hq_64_0 := hO.1
        have hO := hO.2
        refine va_iald (f := (gA st 5)) hx hb hK hI.1 6 5 rfl rfl hq_64_0 dX11_copy_64 ?_
        have hq_65_1 := hO.1
        have hO := hO.2
        refine va_iast (f := (gA st 6)) hx hb hK hI.1 hI.2.1 hI.2.2 7 6 rfl rfl hq_65_1 dX11_copy_65 (fun H locs hP hD hS => ?_)
        have hI : cI (gD g) vwCl (mw g) A s (sA st 6 (upd (gA st 6) (((1024 : Int32) * (gI st 20)) + x1).toNatClampNeg ((gA st 5) (((1024 : Int32) * (gI st 21)) + x1).toNatClampNeg))) H locs := ⟨hP, hD, hS⟩
        exact k_m_copy_b66 g C (m_copy_b2 n) (o_m_copy_b2 n) ih (sA st 6 (upd (gA st 6) (((1024 : Int32) * (gI st 20)) + x1).toNatClampNeg ((gA st 5) (((1024 : Int32) * (gI st 21)) + x1).toNatClampNeg))) x1 H locs ls hI (lv_sub hl [2, 3] rfl) hO X hF
      · have hF := hF.trans (if_pos c_36)
        have hO := hO.1 c_36
        refine lv_aload_n hx hb dX11_copy_39 rfl (lv_at hl 2 rfl) ?_
        refine va_get (D := gD g) (ci := 11) (C := RX11) (T := TX11) (N := 50) (v := .ref (gad g 6)) hx hb hts (fun w h => List.mem_cons_of_mem _ (isX110 w h)) hown hK hI.1 0 rfl rfl 10 (by decide) (hts _ (List.mem_cons_of_mem _ mw190)) (fun _ h9 => h9) rfl dX11_copy_40 ?_
        refine lv_iload_n hx hb dX11_copy_43 rfl (lv_at hl 1 rfl) ?_
        refine lv_aload_n hx hb dX11_copy_44 rfl (lv_at hl 2 rfl) ?_
        refine va_get (D := gD g) (ci := 11) (C := RX11) (T := TX11) (N := 50) (v := .ref (gad g 7)) hx hb hts (fun w h => List.mem_cons_of_mem _ (isX110 w h)) hown hK hI.1 0 rfl rfl 11 (by decide) (hts _ (List.mem_cons_of_mem _ mw191)) (fun _ h9 => h9) rfl dX11_copy_45 ?_
        refine lv_iload_n hx hb dX11_copy_48 rfl (lv_at hl 0 rfl) ?_
        have hq_49_0 := hO.1
        have hO := hO.2
        refine va_iald (f := (gA st 6)) hx hb hK hI.1 7 6 rfl rfl hq_49_0 dX11_copy_49 ?_
        have hq_50_1 := hO.1
        have hO := hO.2
        refine va_iast (f := (gA st 5)) hx hb hK hI.1 hI.2.1 hI.2.2 6 5 rfl rfl hq_50_1 dX11_copy_50 (fun H locs hP hD hS => ?_)
        have hI : cI (gD g) vwCl (mw g) A s (sA st 5 (upd (gA st 5) (((1024 : Int32) * (gI st 21)) + x1).toNatClampNeg ((gA st 6) (((1024 : Int32) * (gI st 20)) + x1).toNatClampNeg))) H locs := ⟨hP, hD, hS⟩
        refine lv_goto (tgt := 66) hx hb dX11_copy_51 (by decide) ?_
        exact k_m_copy_b66 g C (m_copy_b2 n) (o_m_copy_b2 n) ih (sA st 5 (upd (gA st 5) (((1024 : Int32) * (gI st 21)) + x1).toNatClampNeg ((gA st 6) (((1024 : Int32) * (gI st 20)) + x1).toNatClampNeg))) x1 H locs ls hI (lv_sub hl [2, 3] rfl) hO X hF
def m_copy_b2t (st : CS) (x1 : Int32) : CS := (m_copy_b2 (1025) st x1).getD st
def o_m_copy_b2t (st : CS) (x1 : Int32) : Prop := o_m_copy_b2 (1025) st x1 ∧ ∃ r, m_copy_b2 (1025) st x1 = some r
set_option maxHeartbeats 4000000 in
set_option maxRecDepth 100000 in
theorem k_m_copy_b2t {p : Program} {l : Launch} {e : Env} {s : State} {m : MethodId} {args : Array Value} {below : List Frame} {meth : Method} {c : Code} {A : Nat → Prop} (g : Gm) (C : cX p s m args meth c A cX11_copy none 4 RX11 wq_X11_copy (gD g) vwCl (mty g) (mz g)) (st : CS) (x1 : Int32) (H : Heap) (locs : List Loc) (ls : Array Slot) (hI : cI (gD g) vwCl (mw g) A s st H locs) (hl : lv_has ls 4 [(0, .ref (gad g 0)), (1, .int x1)]) (hO : o_m_copy_b2t st x1) (X : CS) (hF : X = m_copy_b2t st x1) : W p l e rm_m_copy s m args below meth c H locs 0 0 (MQ below (cQv (gD g) vwCl (mty g) (mw g) A X) args s 0 0 A) (F0 m 2 ls []) := by
  refine k_m_copy_b2 g C (1025) st x1 H locs ls hI hl hO.1 X ?_
  rw [hF]
  exact some_getD hO.2
def m_copy (st : CS) : CS := (m_copy_b2t st (0 : Int32))
def o_m_copy (st : CS) : Prop := (o_m_copy_b2t st (0 : Int32))
set_option maxHeartbeats 4000000 in
set_option maxRecDepth 100000 in
theorem k_m_copy {p : Program} {l : Launch} {e : Env} {s : State} {m : MethodId} {args : Array Value} {below : List Frame} {meth : Method} {c : Code} {A : Nat → Prop} (g : Gm) (C : cX p s m args meth c A cX11_copy none 4 RX11 wq_X11_copy (gD g) vwCl (mty g) (mz g)) (st : CS) (H : Heap) (locs : List Loc) (ls : Array Slot) (hI : cI (gD g) vwCl (mw g) A s st H locs) (hl : lv_has ls 4 [(0, .ref (gad g 0))]) (hO : o_m_copy st) (X : CS) (hF : X = m_copy st) : W p l e rm_m_copy s m args below meth c H locs 0 0 (MQ below (cQv (gD g) vwCl (mty g) (mw g) A X) args s 0 0 A) (F0 m 0 ls []) := by
  obtain ⟨hx, hb, hr, hml, hown, hts, hlocks, hK, hA, hZ, hzo⟩ := id C
  unfold m_copy at hF
  unfold o_m_copy at hO
  refine lv_iconst (v := (0 : Int32)) hx hb dX11_copy_0 (by decide) ?_
  refine lv_istore_n (lv' := [(1, .int (0 : Int32)), (0, .ref (gad g 0))]) hx hb dX11_copy_1 rfl hl (by decide) rfl (fun ls hl => ?_)
  exact k_m_copy_b2t g C st (0 : Int32) H locs ls hI (lv_sub hl [1, 0] rfl) hO X hF
set_option maxHeartbeats 4000000 in
set_option maxRecDepth 100000 in
theorem c_m_copy (l : Launch) (g : Gm) (st : CS) (hO : o_m_copy st) : Mv l yX11_copy wq_X11_copy rm_m_copy (gD g) vwCl (mty g) (mw g) (mz g) [.ref (gad g 0)] st (m_copy st) := by
  intro sz
  refine Met.ofW (cc := cX11_copy) (maxL := 4) (ret := none) (by decide) rfl ?_
  intro p e s m args below meth c s₁ B hml hv
  obtain ⟨rfl, hsz, hP, hK, hD0, hZ⟩ := hv
  subst hsz
  have hl := lv_entry ([.ref (gad g 0)]) (n := 4) (Nat.le_of_ble_eq_true rfl)
  rw [lg_entry_eq]
  generalize (lg_sl ([.ref (gad g 0)]) ++ List.replicate (4 - (lg_sl ([.ref (gad g 0)])).length) Slot.unset).toArray = ls at hl ⊢
  exact k_m_copy g ⟨B.exec, B.bytes, B.returns, hml, findClass_of_methodNamed B.named, atoms_spec (ws := wq_X11_copy) B.pre, B.notSynchronized, hK, fun q h => Or.inr h, hZ, mz_ok g⟩ st  _ _ ls ⟨hP, hD0.self, va_S.rf⟩ hl hO _ rfl
