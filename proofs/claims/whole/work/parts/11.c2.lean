abbrev wq_X8_begin : List Cond := .code yX8_begin cX8_begin 1 none :: wAll
theorem yd_yX8_begin : yX8_begin.cls = RX8 ∧ yX8_begin.cls ≠ "java/lang/invoke/MethodHandle" ∧ yX8_begin.cls ≠ "java/lang/invoke/VarHandle" ∧ (parseMethodDescriptor yX8_begin.desc).map (fun d => d.parameters.length) = some 0 := by decide +kernel
abbrev rm_cSerial_begin : Room := { frames := 0, cells := 0, slots := 0, locals := 0 }
def cSerial_begin (st : CS) : CS := (sI (sI st 8 (0 : Int32)) 9 (0 : Int32))
set_option maxHeartbeats 4000000 in
set_option maxRecDepth 100000 in
theorem k_cSerial_begin {p : Program} {l : Launch} {e : Env} {s : State} {m : MethodId} {args : Array Value} {below : List Frame} {meth : Method} {c : Code} {A : Nat → Prop} (g : Gm) (C : cX p s m args meth c A cX8_begin none 1 RX8 wq_X8_begin (gD g) vwCl (cty g) (cz g)) (st : CS) (H : Heap) (locs : List Loc) (ls : Array Slot) (hI : cI (gD g) vwCl (cw g) A s st H locs) (hl : lv_has ls 1 [(0, .ref (gad g 8))]) (X : CS) (hF : X = cSerial_begin st) : W p l e rm_cSerial_begin s m args below meth c H locs 0 0 (MQ below (cQv (gD g) vwCl (cty g) (cw g) A X) args s 0 0 A) (F0 m 0 ls []) := by
  obtain ⟨hx, hb, hr, hml, hown, hts, hlocks, hK, hA, hZ, hzo⟩ := id C
  unfold cSerial_begin at hF
  refine lv_aload_n hx hb dX8_begin_0 rfl (lv_at hl 0 rfl) ?_
  refine lv_iconst (v := (0 : Int32)) hx hb dX8_begin_1 (by decide) ?_
  refine va_put (D := gD g) (ci := 8) (C := RX8) (T := TX8) (N := 5) (v := .int (0 : Int32)) (ty := .int) hx hb hts (fun w h => List.mem_cons_of_mem _ (isX80 w h)) tyX8 tyX8_ok nmX8 hown hK hI.1 hI.2.1 hI.2.2 8 rfl rfl 3 (by decide) (hts _ (List.mem_cons_of_mem _ mw148)) (fun _ h9 => h9) rfl (by decide +kernel) rfl rfl (Nat.le_of_ble_eq_true rfl) dX8_begin_2 (fun H locs hP hD hS => ?_)
  have hI : cI (gD g) vwCl (cw g) A s (sI st 8 (0 : Int32)) H locs := ⟨hP, hD, hS⟩
  refine lv_aload_n hx hb dX8_begin_5 rfl (lv_at hl 0 rfl) ?_
  refine lv_iconst (v := (0 : Int32)) hx hb dX8_begin_6 (by decide) ?_
  refine va_put (D := gD g) (ci := 8) (C := RX8) (T := TX8) (N := 5) (v := .int (0 : Int32)) (ty := .int) hx hb hts (fun w h => List.mem_cons_of_mem _ (isX80 w h)) tyX8 tyX8_ok nmX8 hown hK hI.1 hI.2.1 hI.2.2 8 rfl rfl 4 (by decide) (hts _ (List.mem_cons_of_mem _ mw149)) (fun _ h9 => h9) rfl (by decide +kernel) rfl rfl (Nat.le_of_ble_eq_true rfl) dX8_begin_7 (fun H locs hP hD hS => ?_)
  have hI : cI (gD g) vwCl (cw g) A s (sI (sI st 8 (0 : Int32)) 9 (0 : Int32)) H locs := ⟨hP, hD, hS⟩
  exact cx_vret C hI hF dX8_begin_10
set_option maxHeartbeats 4000000 in
set_option maxRecDepth 100000 in
theorem c_cSerial_begin (l : Launch) (g : Gm) (st : CS) : Mv l yX8_begin wq_X8_begin rm_cSerial_begin (gD g) vwCl (cty g) (cw g) (cz g) [.ref (gad g 8)] st (cSerial_begin st) := by
  intro sz
  refine Met.ofW (cc := cX8_begin) (maxL := 1) (ret := none) (by decide) rfl ?_
  intro p e s m args below meth c s₁ B hml hv
  obtain ⟨rfl, hsz, hP, hK, hD0, hZ⟩ := hv
  subst hsz
  have hl := lv_entry ([.ref (gad g 8)]) (n := 1) (Nat.le_of_ble_eq_true rfl)
  rw [lg_entry_eq]
  generalize (lg_sl ([.ref (gad g 8)]) ++ List.replicate (1 - (lg_sl ([.ref (gad g 8)])).length) Slot.unset).toArray = ls at hl ⊢
  exact k_cSerial_begin g ⟨B.exec, B.bytes, B.returns, hml, findClass_of_methodNamed B.named, atoms_spec (ws := wq_X8_begin) B.pre, B.notSynchronized, hK, fun q h => Or.inr h, hZ, cz_ok g⟩ st  _ _ ls ⟨hP, hD0.self, va_S.rf⟩ hl _ rfl
abbrev wq_X8_receive : List Cond := .code yX8_receive cX8_receive 2 (some .boolean) :: wAll
theorem yd_yX8_receive : yX8_receive.cls = RX8 ∧ yX8_receive.cls ≠ "java/lang/invoke/MethodHandle" ∧ yX8_receive.cls ≠ "java/lang/invoke/VarHandle" ∧ (parseMethodDescriptor yX8_receive.desc).map (fun d => d.parameters.length) = some 1 := by decide +kernel
abbrev rm_cSerial_receive : Room := { frames := 0, cells := 0, slots := 0, locals := 0 }
def cSerial_receive (st : CS) (x1 : Int32) : CS × Int32 := (if (((gI st 3) &&& (128 : Int32)) = 0) then ((sI (sI st 8 (x1 &&& (255 : Int32))) 3 ((gI st 3) ||| (128 : Int32))), (1 : Int32)) else (st, (0 : Int32)))
set_option maxHeartbeats 4000000 in
set_option maxRecDepth 100000 in
theorem k_cSerial_receive {p : Program} {l : Launch} {e : Env} {s : State} {m : MethodId} {args : Array Value} {below : List Frame} {meth : Method} {c : Code} {A : Nat → Prop} (g : Gm) (C : cX p s m args meth c A cX8_receive (some .boolean) 2 RX8 wq_X8_receive (gD g) vwCl (cty g) (cz g)) (st : CS) (x1 : Int32) (H : Heap) (locs : List Loc) (ls : Array Slot) (hI : cI (gD g) vwCl (cw g) A s st H locs) (hl : lv_has ls 2 [(0, .ref (gad g 8)), (1, .int x1)]) (X : CS × Int32) (hF : X = cSerial_receive st x1) : W p l e rm_cSerial_receive s m args below meth c H locs 0 0 (MQ below (cQi (gD g) vwCl (cty g) (cw g) A X.1 X.2) args s 0 0 A) (F0 m 0 ls []) := by
  obtain ⟨hx, hb, hr, hml, hown, hts, hlocks, hK, hA, hZ, hzo⟩ := id C
  unfold cSerial_receive at hF
  refine lv_aload_n hx hb dX8_receive_0 rfl (lv_at hl 0 rfl) ?_
  refine va_get (D := gD g) (ci := 8) (C := RX8) (T := TX8) (N := 5) (v := .ref (gad g 7)) hx hb hts (fun w h => List.mem_cons_of_mem _ (isX80 w h)) hown hK hI.1 8 rfl rfl 0 (by decide) (hts _ (List.mem_cons_of_mem _ mw67)) (fun _ h9 => h9) rfl dX8_receive_1 ?_
  refine va_get (D := gD g) (ci := 4) (C := RX4) (T := TX4) (N := 6) (v := .int (gI st 3)) hx hb hts (fun w h => List.mem_cons_of_mem _ (isX40 w h)) hown hK hI.1 7 rfl rfl 1 (by decide) (hts _ (List.mem_cons_of_mem _ mw289)) (fun _ h9 => h9) rfl dX8_receive_4 ?_
  refine lv_sipush (v := (128 : Int32)) hx hb dX8_receive_7 (by decide) ?_
  refine lv_iand hx hb dX8_receive_10 ?_
  refine lv_if_eq (tgt := 16) hx hb dX8_receive_11 (by decide) (fun c_11 => ?_) (fun c_11 => ?_)
  · have hF := hF.trans (if_pos c_11)
    refine lv_aload_n hx hb dX8_receive_16 rfl (lv_at hl 0 rfl) ?_
    refine lv_iload_n hx hb dX8_receive_17 rfl (lv_at hl 1 rfl) ?_
    refine lv_sipush (v := (255 : Int32)) hx hb dX8_receive_18 (by decide) ?_
    refine lv_iand hx hb dX8_receive_21 ?_
    refine va_put (D := gD g) (ci := 8) (C := RX8) (T := TX8) (N := 5) (v := .int (x1 &&& (255 : Int32))) (ty := .int) hx hb hts (fun w h => List.mem_cons_of_mem _ (isX80 w h)) tyX8 tyX8_ok nmX8 hown hK hI.1 hI.2.1 hI.2.2 8 rfl rfl 3 (by decide) (hts _ (List.mem_cons_of_mem _ mw148)) (fun _ h9 => h9) rfl (by decide +kernel) rfl rfl (Nat.le_of_ble_eq_true rfl) dX8_receive_22 (fun H locs hP hD hS => ?_)
    have hI : cI (gD g) vwCl (cw g) A s (sI st 8 (x1 &&& (255 : Int32))) H locs := ⟨hP, hD, hS⟩
    refine lv_aload_n hx hb dX8_receive_25 rfl (lv_at hl 0 rfl) ?_
    refine va_get (D := gD g) (ci := 8) (C := RX8) (T := TX8) (N := 5) (v := .ref (gad g 7)) hx hb hts (fun w h => List.mem_cons_of_mem _ (isX80 w h)) hown hK hI.1 8 rfl rfl 0 (by decide) (hts _ (List.mem_cons_of_mem _ mw67)) (fun _ h9 => h9) rfl dX8_receive_26 ?_
    refine lv_dup hx hb dX8_receive_29 rfl ?_
    refine va_get (D := gD g) (ci := 4) (C := RX4) (T := TX4) (N := 6) (v := .int (gI st 3)) hx hb hts (fun w h => List.mem_cons_of_mem _ (isX40 w h)) hown hK hI.1 7 rfl rfl 1 (by decide) (hts _ (List.mem_cons_of_mem _ mw289)) (fun _ h9 => h9) rfl dX8_receive_30 ?_
    refine lv_sipush (v := (128 : Int32)) hx hb dX8_receive_33 (by decide) ?_
    refine lv_ior hx hb dX8_receive_36 ?_
    refine va_put (D := gD g) (ci := 4) (C := RX4) (T := TX4) (N := 6) (v := .int ((gI st 3) ||| (128 : Int32))) (ty := .int) hx hb hts (fun w h => List.mem_cons_of_mem _ (isX40 w h)) tyX4 tyX4_ok nmX4 hown hK hI.1 hI.2.1 hI.2.2 7 rfl rfl 1 (by decide) (hts _ (List.mem_cons_of_mem _ mw289)) (fun _ h9 => h9) rfl (by decide +kernel) rfl rfl (Nat.le_of_ble_eq_true rfl) dX8_receive_37 (fun H locs hP hD hS => ?_)
    have hI : cI (gD g) vwCl (cw g) A s (sI (sI st 8 (x1 &&& (255 : Int32))) 3 ((gI st 3) ||| (128 : Int32))) H locs := ⟨hP, hD, hS⟩
    refine lv_iconst (v := (1 : Int32)) hx hb dX8_receive_40 (by decide) ?_
    exact cx_zret C hI (congrArg Prod.fst hF) (congrArg Prod.snd hF) rfl dX8_receive_41
  · have hF := hF.trans (if_neg c_11)
    refine lv_iconst (v := (0 : Int32)) hx hb dX8_receive_14 (by decide) ?_
    exact cx_zret C hI (congrArg Prod.fst hF) (congrArg Prod.snd hF) rfl dX8_receive_15
set_option maxHeartbeats 4000000 in
set_option maxRecDepth 100000 in
theorem c_cSerial_receive (l : Launch) (g : Gm) (st : CS) (x1 : Int32) : Mi l yX8_receive wq_X8_receive rm_cSerial_receive (gD g) vwCl (cty g) (cw g) (cz g) [.ref (gad g 8), .int x1] st (cSerial_receive st x1).1 (cSerial_receive st x1).2 := by
  intro sz
  refine Met.ofW (cc := cX8_receive) (maxL := 2) (ret := (some .boolean)) (by decide) rfl ?_
  intro p e s m args below meth c s₁ B hml hv
  obtain ⟨rfl, hsz, hP, hK, hD0, hZ⟩ := hv
  subst hsz
  have hl := lv_entry ([.ref (gad g 8), .int x1]) (n := 2) (Nat.le_of_ble_eq_true rfl)
  rw [lg_entry_eq]
  generalize (lg_sl ([.ref (gad g 8), .int x1]) ++ List.replicate (2 - (lg_sl ([.ref (gad g 8), .int x1])).length) Slot.unset).toArray = ls at hl ⊢
  exact k_cSerial_receive g ⟨B.exec, B.bytes, B.returns, hml, findClass_of_methodNamed B.named, atoms_spec (ws := wq_X8_receive) B.pre, B.notSynchronized, hK, fun q h => Or.inr h, hZ, cz_ok g⟩ st x1 _ _ ls ⟨hP, hD0.self, va_S.rf⟩ hl _ rfl
theorem cSerial_receive_b (st : CS) (x1 : Int32) : (cSerial_receive st x1).2 = 0 ∨ (cSerial_receive st x1).2 = 1 := by
  unfold cSerial_receive
  split
  · first | exact Or.inl rfl | exact Or.inr rfl
  · first | exact Or.inl rfl | exact Or.inr rfl
abbrev wq_X8_isRead : List Cond := .code yX8_isRead cX8_isRead 1 none :: wAll
theorem yd_yX8_isRead : yX8_isRead.cls = RX8 ∧ yX8_isRead.cls ≠ "java/lang/invoke/MethodHandle" ∧ yX8_isRead.cls ≠ "java/lang/invoke/VarHandle" ∧ (parseMethodDescriptor yX8_isRead.desc).map (fun d => d.parameters.length) = some 0 := by decide +kernel
abbrev rm_cSerial_isRead : Room := { frames := 0, cells := 0, slots := 0, locals := 0 }
def cSerial_isRead (st : CS) : CS := (sI st 3 ((gI st 3) &&& (-129 : Int32)))
set_option maxHeartbeats 4000000 in
set_option maxRecDepth 100000 in
theorem k_cSerial_isRead {p : Program} {l : Launch} {e : Env} {s : State} {m : MethodId} {args : Array Value} {below : List Frame} {meth : Method} {c : Code} {A : Nat → Prop} (g : Gm) (C : cX p s m args meth c A cX8_isRead none 1 RX8 wq_X8_isRead (gD g) vwCl (cty g) (cz g)) (st : CS) (H : Heap) (locs : List Loc) (ls : Array Slot) (hI : cI (gD g) vwCl (cw g) A s st H locs) (hl : lv_has ls 1 [(0, .ref (gad g 8))]) (X : CS) (hF : X = cSerial_isRead st) : W p l e rm_cSerial_isRead s m args below meth c H locs 0 0 (MQ below (cQv (gD g) vwCl (cty g) (cw g) A X) args s 0 0 A) (F0 m 0 ls []) := by
  obtain ⟨hx, hb, hr, hml, hown, hts, hlocks, hK, hA, hZ, hzo⟩ := id C
  unfold cSerial_isRead at hF
  refine lv_aload_n hx hb dX8_isRead_0 rfl (lv_at hl 0 rfl) ?_
  refine va_get (D := gD g) (ci := 8) (C := RX8) (T := TX8) (N := 5) (v := .ref (gad g 7)) hx hb hts (fun w h => List.mem_cons_of_mem _ (isX80 w h)) hown hK hI.1 8 rfl rfl 0 (by decide) (hts _ (List.mem_cons_of_mem _ mw67)) (fun _ h9 => h9) rfl dX8_isRead_1 ?_
  refine lv_dup hx hb dX8_isRead_4 rfl ?_
  refine va_get (D := gD g) (ci := 4) (C := RX4) (T := TX4) (N := 6) (v := .int (gI st 3)) hx hb hts (fun w h => List.mem_cons_of_mem _ (isX40 w h)) hown hK hI.1 7 rfl rfl 1 (by decide) (hts _ (List.mem_cons_of_mem _ mw289)) (fun _ h9 => h9) rfl dX8_isRead_5 ?_
  refine lv_sipush (v := (-129 : Int32)) hx hb dX8_isRead_8 (by decide) ?_
  refine lv_iand hx hb dX8_isRead_11 ?_
  refine va_put (D := gD g) (ci := 4) (C := RX4) (T := TX4) (N := 6) (v := .int ((gI st 3) &&& (-129 : Int32))) (ty := .int) hx hb hts (fun w h => List.mem_cons_of_mem _ (isX40 w h)) tyX4 tyX4_ok nmX4 hown hK hI.1 hI.2.1 hI.2.2 7 rfl rfl 1 (by decide) (hts _ (List.mem_cons_of_mem _ mw289)) (fun _ h9 => h9) rfl (by decide +kernel) rfl rfl (Nat.le_of_ble_eq_true rfl) dX8_isRead_12 (fun H locs hP hD hS => ?_)
  have hI : cI (gD g) vwCl (cw g) A s (sI st 3 ((gI st 3) &&& (-129 : Int32))) H locs := ⟨hP, hD, hS⟩
  exact cx_vret C hI hF dX8_isRead_15
set_option maxHeartbeats 4000000 in
set_option maxRecDepth 100000 in
theorem c_cSerial_isRead (l : Launch) (g : Gm) (st : CS) : Mv l yX8_isRead wq_X8_isRead rm_cSerial_isRead (gD g) vwCl (cty g) (cw g) (cz g) [.ref (gad g 8)] st (cSerial_isRead st) := by
  intro sz
  refine Met.ofW (cc := cX8_isRead) (maxL := 1) (ret := none) (by decide) rfl ?_
  intro p e s m args below meth c s₁ B hml hv
  obtain ⟨rfl, hsz, hP, hK, hD0, hZ⟩ := hv
  subst hsz
  have hl := lv_entry ([.ref (gad g 8)]) (n := 1) (Nat.le_of_ble_eq_true rfl)
  rw [lg_entry_eq]
  generalize (lg_sl ([.ref (gad g 8)]) ++ List.replicate (1 - (lg_sl ([.ref (gad g 8)])).length) Slot.unset).toArray = ls at hl ⊢
  exact k_cSerial_isRead g ⟨B.exec, B.bytes, B.returns, hml, findClass_of_methodNamed B.named, atoms_spec (ws := wq_X8_isRead) B.pre, B.notSynchronized, hK, fun q h => Or.inr h, hZ, cz_ok g⟩ st  _ _ ls ⟨hP, hD0.self, va_S.rf⟩ hl _ rfl
abbrev wq_X8_send : List Cond := .code yX8_send cX8_send 2 none :: wAll
theorem yd_yX8_send : yX8_send.cls = RX8 ∧ yX8_send.cls ≠ "java/lang/invoke/MethodHandle" ∧ yX8_send.cls ≠ "java/lang/invoke/VarHandle" ∧ (parseMethodDescriptor yX8_send.desc).map (fun d => d.parameters.length) = some 1 := by decide +kernel
abbrev rm_cSerial_send : Room := { frames := 0, cells := 0, slots := 0, locals := 0 }
def cSerial_send (st : CS) (x1 : Int32) : CS := (sA (sL (sI (sI st 9 (256 : Int32)) 3 ((gI st 3) &&& (-65 : Int32))) 2 ((gL st 2) + (1 : Int64))) 4 (upd (gA st 4) (((gL st 2).toInt32) &&& (4095 : Int32)).toNatClampNeg (vp_nar .byte (x1.toInt8.toInt32))))
set_option maxHeartbeats 4000000 in
set_option maxRecDepth 100000 in
theorem k_cSerial_send {p : Program} {l : Launch} {e : Env} {s : State} {m : MethodId} {args : Array Value} {below : List Frame} {meth : Method} {c : Code} {A : Nat → Prop} (g : Gm) (C : cX p s m args meth c A cX8_send none 2 RX8 wq_X8_send (gD g) vwCl (cty g) (cz g)) (st : CS) (x1 : Int32) (H : Heap) (locs : List Loc) (ls : Array Slot) (hI : cI (gD g) vwCl (cw g) A s st H locs) (hl : lv_has ls 2 [(0, .ref (gad g 8)), (1, .int x1)]) (X : CS) (hF : X = cSerial_send st x1) : W p l e rm_cSerial_send s m args below meth c H locs 0 0 (MQ below (cQv (gD g) vwCl (cty g) (cw g) A X) args s 0 0 A) (F0 m 0 ls []) := by
  obtain ⟨hx, hb, hr, hml, hown, hts, hlocks, hK, hA, hZ, hzo⟩ := id C
  unfold cSerial_send at hF
  refine lv_aload_n hx hb dX8_send_0 rfl (lv_at hl 0 rfl) ?_
  refine va_get (D := gD g) (ci := 8) (C := RX8) (T := TX8) (N := 5) (v := .ref (gad g 9)) hx hb hts (fun w h => List.mem_cons_of_mem _ (isX80 w h)) hown hK hI.1 8 rfl rfl 1 (by decide) (hts _ (List.mem_cons_of_mem _ mw66)) (fun _ h9 => h9) rfl dX8_send_1 ?_
  refine lv_aload_n hx hb dX8_send_4 rfl (lv_at hl 0 rfl) ?_
  refine va_get (D := gD g) (ci := 8) (C := RX8) (T := TX8) (N := 5) (v := .long (gL st 2)) hx hb hts (fun w h => List.mem_cons_of_mem _ (isX80 w h)) hown hK hI.1 8 rfl rfl 2 (by decide) (hts _ (List.mem_cons_of_mem _ mw619)) (fun _ h9 => h9) rfl dX8_send_5 ?_
  refine lv_l2i (v := ((gL st 2).toInt32)) hx hb dX8_send_8 rfl ?_
  refine lv_sipush (v := (4095 : Int32)) hx hb dX8_send_9 (by decide) ?_
  refine lv_iand hx hb dX8_send_12 ?_
  refine lv_iload_n hx hb dX8_send_13 rfl (lv_at hl 1 rfl) ?_
  refine lv_i2b (v := (x1.toInt8.toInt32)) hx hb dX8_send_14 rfl ?_
  refine va_bast (f := (gA st 4)) hx hb hK hI.1 hI.2.1 hI.2.2 9 4 rfl rfl (vin_and _ 12 rfl (by decide) (by decide)) dX8_send_15 (fun H locs hP hD hS => ?_)
  have hI : cI (gD g) vwCl (cw g) A s (sA st 4 (upd (gA st 4) (((gL st 2).toInt32) &&& (4095 : Int32)).toNatClampNeg (vp_nar .byte (x1.toInt8.toInt32)))) H locs := ⟨hP, hD, hS⟩
  refine lv_aload_n hx hb dX8_send_16 rfl (lv_at hl 0 rfl) ?_
  refine lv_dup hx hb dX8_send_17 rfl ?_
  refine va_get (D := gD g) (ci := 8) (C := RX8) (T := TX8) (N := 5) (v := .long (gL st 2)) hx hb hts (fun w h => List.mem_cons_of_mem _ (isX80 w h)) hown hK hI.1 8 rfl rfl 2 (by decide) (hts _ (List.mem_cons_of_mem _ mw619)) (fun _ h9 => h9) rfl dX8_send_18 ?_
  refine lv_lconst (v := (1 : Int64)) hx hb dX8_send_21 (by decide) ?_
  refine lv_ladd hx hb dX8_send_22 ?_
  refine va_put (D := gD g) (ci := 8) (C := RX8) (T := TX8) (N := 5) (v := .long ((gL st 2) + (1 : Int64))) (ty := .long) hx hb hts (fun w h => List.mem_cons_of_mem _ (isX80 w h)) tyX8 tyX8_ok nmX8 hown hK hI.1 hI.2.1 hI.2.2 8 rfl rfl 2 (by decide) (hts _ (List.mem_cons_of_mem _ mw619)) (fun _ h9 => h9) rfl (by decide +kernel) rfl rfl (Nat.le_of_ble_eq_true rfl) dX8_send_23 (fun H locs hP hD hS => ?_)
  have hI : cI (gD g) vwCl (cw g) A s (sA (sL st 2 ((gL st 2) + (1 : Int64))) 4 (upd (gA st 4) (((gL st 2).toInt32) &&& (4095 : Int32)).toNatClampNeg (vp_nar .byte (x1.toInt8.toInt32)))) H locs := ⟨hP, hD, hS⟩
  refine lv_aload_n hx hb dX8_send_26 rfl (lv_at hl 0 rfl) ?_
  refine lv_sipush (v := (256 : Int32)) hx hb dX8_send_27 (by decide) ?_
  refine va_put (D := gD g) (ci := 8) (C := RX8) (T := TX8) (N := 5) (v := .int (256 : Int32)) (ty := .int) hx hb hts (fun w h => List.mem_cons_of_mem _ (isX80 w h)) tyX8 tyX8_ok nmX8 hown hK hI.1 hI.2.1 hI.2.2 8 rfl rfl 4 (by decide) (hts _ (List.mem_cons_of_mem _ mw149)) (fun _ h9 => h9) rfl (by decide +kernel) rfl rfl (Nat.le_of_ble_eq_true rfl) dX8_send_30 (fun H locs hP hD hS => ?_)
  have hI : cI (gD g) vwCl (cw g) A s (sA (sL (sI st 9 (256 : Int32)) 2 ((gL st 2) + (1 : Int64))) 4 (upd (gA st 4) (((gL st 2).toInt32) &&& (4095 : Int32)).toNatClampNeg (vp_nar .byte (x1.toInt8.toInt32)))) H locs := ⟨hP, hD, hS⟩
  refine lv_aload_n hx hb dX8_send_33 rfl (lv_at hl 0 rfl) ?_
  refine va_get (D := gD g) (ci := 8) (C := RX8) (T := TX8) (N := 5) (v := .ref (gad g 7)) hx hb hts (fun w h => List.mem_cons_of_mem _ (isX80 w h)) hown hK hI.1 8 rfl rfl 0 (by decide) (hts _ (List.mem_cons_of_mem _ mw67)) (fun _ h9 => h9) rfl dX8_send_34 ?_
  refine lv_dup hx hb dX8_send_37 rfl ?_
  refine va_get (D := gD g) (ci := 4) (C := RX4) (T := TX4) (N := 6) (v := .int (gI st 3)) hx hb hts (fun w h => List.mem_cons_of_mem _ (isX40 w h)) hown hK hI.1 7 rfl rfl 1 (by decide) (hts _ (List.mem_cons_of_mem _ mw289)) (fun _ h9 => h9) rfl dX8_send_38 ?_
  refine lv_bipush (v := (-65 : Int32)) hx hb dX8_send_41 (by decide) ?_
  refine lv_iand hx hb dX8_send_43 ?_
  refine va_put (D := gD g) (ci := 4) (C := RX4) (T := TX4) (N := 6) (v := .int ((gI st 3) &&& (-65 : Int32))) (ty := .int) hx hb hts (fun w h => List.mem_cons_of_mem _ (isX40 w h)) tyX4 tyX4_ok nmX4 hown hK hI.1 hI.2.1 hI.2.2 7 rfl rfl 1 (by decide) (hts _ (List.mem_cons_of_mem _ mw289)) (fun _ h9 => h9) rfl (by decide +kernel) rfl rfl (Nat.le_of_ble_eq_true rfl) dX8_send_44 (fun H locs hP hD hS => ?_)
  have hI : cI (gD g) vwCl (cw g) A s (sA (sL (sI (sI st 9 (256 : Int32)) 3 ((gI st 3) &&& (-65 : Int32))) 2 ((gL st 2) + (1 : Int64))) 4 (upd (gA st 4) (((gL st 2).toInt32) &&& (4095 : Int32)).toNatClampNeg (vp_nar .byte (x1.toInt8.toInt32)))) H locs := ⟨hP, hD, hS⟩
  exact cx_vret C hI hF dX8_send_47
set_option maxHeartbeats 4000000 in
set_option maxRecDepth 100000 in
theorem c_cSerial_send (l : Launch) (g : Gm) (st : CS) (x1 : Int32) : Mv l yX8_send wq_X8_send rm_cSerial_send (gD g) vwCl (cty g) (cw g) (cz g) [.ref (gad g 8), .int x1] st (cSerial_send st x1) := by
  intro sz
  refine Met.ofW (cc := cX8_send) (maxL := 2) (ret := none) (by decide) rfl ?_
  intro p e s m args below meth c s₁ B hml hv
  obtain ⟨rfl, hsz, hP, hK, hD0, hZ⟩ := hv
  subst hsz
  have hl := lv_entry ([.ref (gad g 8), .int x1]) (n := 2) (Nat.le_of_ble_eq_true rfl)
  rw [lg_entry_eq]
  generalize (lg_sl ([.ref (gad g 8), .int x1]) ++ List.replicate (2 - (lg_sl ([.ref (gad g 8), .int x1])).length) Slot.unset).toArray = ls at hl ⊢
  exact k_cSerial_send g ⟨B.exec, B.bytes, B.returns, hml, findClass_of_methodNamed B.named, atoms_spec (ws := wq_X8_send) B.pre, B.notSynchronized, hK, fun q h => Or.inr h, hZ, cz_ok g⟩ st x1 _ _ ls ⟨hP, hD0.self, va_S.rf⟩ hl _ rfl
abbrev wq_X8_keptByte : List Cond := .code yX8_keptByte cX8_keptByte 4 (some .int) :: wAll
theorem yd_yX8_keptByte : yX8_keptByte.cls = RX8 ∧ yX8_keptByte.cls ≠ "java/lang/invoke/MethodHandle" ∧ yX8_keptByte.cls ≠ "java/lang/invoke/VarHandle" ∧ (parseMethodDescriptor yX8_keptByte.desc).map (fun d => d.parameters.length) = some 1 := by decide +kernel
abbrev rm_cSerial_keptByte : Room := { frames := 1, cells := 0, slots := 0, locals := 23 }
def cSerial_keptByte (st : CS) (x1 : Int32) : Int32 := (if (x1 < 0) then (-1 : Int32) else (if ((lg_cmp (x1.toInt64) ((gL st 2) - (if ((gL st 2) - (4000 : Int64)) < (0 : Int64) then (0 : Int64) else ((gL st 2) - (4000 : Int64))))) < 0) then (((gA st 4) ((((if ((gL st 2) - (4000 : Int64)) < (0 : Int64) then (0 : Int64) else ((gL st 2) - (4000 : Int64))) + (x1.toInt64)).toInt32) &&& (4095 : Int32)).toNatClampNeg) &&& (255 : Int32)) else (-1 : Int32)))
set_option maxHeartbeats 4000000 in
set_option maxRecDepth 100000 in
theorem k_cSerial_keptByte {p : Program} {l : Launch} {e : Env} {s : State} {m : MethodId} {args : Array Value} {below : List Frame} {meth : Method} {c : Code} {A : Nat → Prop} (g : Gm) (C : cX p s m args meth c A cX8_keptByte (some .int) 4 RX8 wq_X8_keptByte (gD g) vwCl (cty g) (cz g)) (st : CS) (x1 : Int32) (H : Heap) (locs : List Loc) (ls : Array Slot) (hI : cI (gD g) vwCl (cw g) A s st H locs) (hl : lv_has ls 4 [(0, .ref (gad g 8)), (1, .int x1)]) (X : Int32) (hF : X = cSerial_keptByte st x1) : W p l e rm_cSerial_keptByte s m args below meth c H locs 0 0 (MQ below (cQi (gD g) vwCl (cty g) (cw g) A st X) args s 0 0 A) (F0 m 0 ls []) := by
  obtain ⟨hx, hb, hr, hml, hown, hts, hlocks, hK, hA, hZ, hzo⟩ := id C
  unfold cSerial_keptByte at hF
  refine lv_lconst (v := (0 : Int64)) hx hb dX8_keptByte_0 (by decide) ?_
  refine lv_aload_n hx hb dX8_keptByte_1 rfl (lv_at hl 0 rfl) ?_
  refine va_get (D := gD g) (ci := 8) (C := RX8) (T := TX8) (N := 5) (v := .long (gL st 2)) hx hb hts (fun w h => List.mem_cons_of_mem _ (isX80 w h)) hown hK hI.1 8 rfl rfl 2 (by decide) (hts _ (List.mem_cons_of_mem _ mw619)) (fun _ h9 => h9) rfl dX8_keptByte_2 ?_
  refine lv_ldc2 (v := (4000 : Int64)) hx hb hown (hts _ (List.mem_cons_of_mem _ mw1064)) dX8_keptByte_5 ?_
  refine lv_lsub hx hb dX8_keptByte_8 ?_
  refine va_mmax_long hx hb (hml.trans hl.1.symm) hown (hts _ (List.mem_cons_of_mem _ mw1065)) (hts _ (List.mem_cons_of_mem _ mw1066)) (hts _ (List.mem_cons_of_mem _ mw458)) (hts _ (List.mem_cons_of_mem _ mw1067)) (Nat.le_of_ble_eq_true rfl) (Nat.le_of_ble_eq_true rfl) (Nat.zero_le _) (Nat.zero_le _) dX8_keptByte_9 ?_
  refine lv_lstore_n (lv' := [(2, .long (if ((gL st 2) - (4000 : Int64)) < (0 : Int64) then (0 : Int64) else ((gL st 2) - (4000 : Int64)))), (0, .ref (gad g 8)), (1, .int x1)]) hx hb dX8_keptByte_12 rfl hl (by decide) rfl (fun ls hl => ?_)
  refine lv_iload_n hx hb dX8_keptByte_13 rfl (lv_at hl 2 rfl) ?_
  refine lv_if_lt (tgt := 29) hx hb dX8_keptByte_14 (by decide) (fun c_14 => ?_) (fun c_14 => ?_)
  · have hF := hF.trans (if_pos c_14)
    refine lv_iconst (v := (-1 : Int32)) hx hb dX8_keptByte_29 (by decide) ?_
    exact cx_iret C hI rfl hF dX8_keptByte_30
  · have hF := hF.trans (if_neg c_14)
    refine lv_iload_n hx hb dX8_keptByte_17 rfl (lv_at hl 2 rfl) ?_
    refine lv_i2l (v := (x1.toInt64)) hx hb dX8_keptByte_18 rfl ?_
    refine lv_aload_n hx hb dX8_keptByte_19 rfl (lv_at hl 1 rfl) ?_
    refine va_get (D := gD g) (ci := 8) (C := RX8) (T := TX8) (N := 5) (v := .long (gL st 2)) hx hb hts (fun w h => List.mem_cons_of_mem _ (isX80 w h)) hown hK hI.1 8 rfl rfl 2 (by decide) (hts _ (List.mem_cons_of_mem _ mw619)) (fun _ h9 => h9) rfl dX8_keptByte_20 ?_
    refine lv_lload_n hx hb dX8_keptByte_23 rfl (lv_at hl 0 rfl) ?_
    refine lv_lsub hx hb dX8_keptByte_24 ?_
    refine W.lcmp hx hb dX8_keptByte_25 ?_
    refine lv_if_lt (tgt := 31) hx hb dX8_keptByte_26 (by decide) (fun c_26 => ?_) (fun c_26 => ?_)
    · have hF := hF.trans (if_pos c_26)
      refine lv_aload_n hx hb dX8_keptByte_31 rfl (lv_at hl 1 rfl) ?_
      refine va_get (D := gD g) (ci := 8) (C := RX8) (T := TX8) (N := 5) (v := .ref (gad g 9)) hx hb hts (fun w h => List.mem_cons_of_mem _ (isX80 w h)) hown hK hI.1 8 rfl rfl 1 (by decide) (hts _ (List.mem_cons_of_mem _ mw66)) (fun _ h9 => h9) rfl dX8_keptByte_32 ?_
      refine lv_lload_n hx hb dX8_keptByte_35 rfl (lv_at hl 0 rfl) ?_
      refine lv_iload_n hx hb dX8_keptByte_36 rfl (lv_at hl 2 rfl) ?_
      refine lv_i2l (v := (x1.toInt64)) hx hb dX8_keptByte_37 rfl ?_
      refine lv_ladd hx hb dX8_keptByte_38 ?_
      refine lv_l2i (v := (((if ((gL st 2) - (4000 : Int64)) < (0 : Int64) then (0 : Int64) else ((gL st 2) - (4000 : Int64))) + (x1.toInt64)).toInt32)) hx hb dX8_keptByte_39 rfl ?_
      refine lv_sipush (v := (4095 : Int32)) hx hb dX8_keptByte_40 (by decide) ?_
      refine lv_iand hx hb dX8_keptByte_43 ?_
      refine va_bald (f := (gA st 4)) hx hb hK hI.1 9 4 rfl rfl (vin_and _ 12 rfl (by decide) (by decide)) dX8_keptByte_44 ?_
      refine lv_sipush (v := (255 : Int32)) hx hb dX8_keptByte_45 (by decide) ?_
      refine lv_iand hx hb dX8_keptByte_48 ?_
      exact cx_iret C hI rfl hF dX8_keptByte_49
    · have hF := hF.trans (if_neg c_26)
      refine lv_iconst (v := (-1 : Int32)) hx hb dX8_keptByte_29 (by decide) ?_
      exact cx_iret C hI rfl hF dX8_keptByte_30
set_option maxHeartbeats 4000000 in
set_option maxRecDepth 100000 in
theorem c_cSerial_keptByte (l : Launch) (g : Gm) (st : CS) (x1 : Int32) : Mi l yX8_keptByte wq_X8_keptByte rm_cSerial_keptByte (gD g) vwCl (cty g) (cw g) (cz g) [.ref (gad g 8), .int x1] st st (cSerial_keptByte st x1) := by
  intro sz
  refine Met.ofW (cc := cX8_keptByte) (maxL := 4) (ret := (some .int)) (by decide) rfl ?_
  intro p e s m args below meth c s₁ B hml hv
  obtain ⟨rfl, hsz, hP, hK, hD0, hZ⟩ := hv
  subst hsz
  have hl := lv_entry ([.ref (gad g 8), .int x1]) (n := 4) (Nat.le_of_ble_eq_true rfl)
  rw [lg_entry_eq]
  generalize (lg_sl ([.ref (gad g 8), .int x1]) ++ List.replicate (4 - (lg_sl ([.ref (gad g 8), .int x1])).length) Slot.unset).toArray = ls at hl ⊢
  exact k_cSerial_keptByte g ⟨B.exec, B.bytes, B.returns, hml, findClass_of_methodNamed B.named, atoms_spec (ws := wq_X8_keptByte) B.pre, B.notSynchronized, hK, fun q h => Or.inr h, hZ, cz_ok g⟩ st x1 _ _ ls ⟨hP, hD0.self, va_S.rf⟩ hl _ rfl
abbrev wq_X8_goOn : List Cond := .code yX8_goOn cX8_goOn 2 none :: wAll
theorem yd_yX8_goOn : yX8_goOn.cls = RX8 ∧ yX8_goOn.cls ≠ "java/lang/invoke/MethodHandle" ∧ yX8_goOn.cls ≠ "java/lang/invoke/VarHandle" ∧ (parseMethodDescriptor yX8_goOn.desc).map (fun d => d.parameters.length) = some 1 := by decide +kernel
abbrev rm_cSerial_goOn : Room := { frames := 0, cells := 0, slots := 0, locals := 0 }
def cSerial_goOn (st : CS) (x1 : Int32) : CS := (if ((gI st 9) ≤ x1) then (sI (sI st 9 (0 : Int32)) 3 ((gI st 3) ||| (64 : Int32))) else (sI st 9 ((gI st 9) - x1)))
set_option maxHeartbeats 4000000 in
set_option maxRecDepth 100000 in
theorem k_cSerial_goOn {p : Program} {l : Launch} {e : Env} {s : State} {m : MethodId} {args : Array Value} {below : List Frame} {meth : Method} {c : Code} {A : Nat → Prop} (g : Gm) (C : cX p s m args meth c A cX8_goOn none 2 RX8 wq_X8_goOn (gD g) vwCl (cty g) (cz g)) (st : CS) (x1 : Int32) (H : Heap) (locs : List Loc) (ls : Array Slot) (hI : cI (gD g) vwCl (cw g) A s st H locs) (hl : lv_has ls 2 [(0, .ref (gad g 8)), (1, .int x1)]) (X : CS) (hF : X = cSerial_goOn st x1) : W p l e rm_cSerial_goOn s m args below meth c H locs 0 0 (MQ below (cQv (gD g) vwCl (cty g) (cw g) A X) args s 0 0 A) (F0 m 0 ls []) := by
  obtain ⟨hx, hb, hr, hml, hown, hts, hlocks, hK, hA, hZ, hzo⟩ := id C
  unfold cSerial_goOn at hF
  refine lv_aload_n hx hb dX8_goOn_0 rfl (lv_at hl 0 rfl) ?_
  refine va_get (D := gD g) (ci := 8) (C := RX8) (T := TX8) (N := 5) (v := .int (gI st 9)) hx hb hts (fun w h => List.mem_cons_of_mem _ (isX80 w h)) hown hK hI.1 8 rfl rfl 4 (by decide) (hts _ (List.mem_cons_of_mem _ mw149)) (fun _ h9 => h9) rfl dX8_goOn_1 ?_
  refine lv_iload_n hx hb dX8_goOn_4 rfl (lv_at hl 1 rfl) ?_
  refine lv_icmp_le (tgt := 21) hx hb dX8_goOn_5 (by decide) (fun c_5 => ?_) (fun c_5 => ?_)
  · have hF := hF.trans (if_pos c_5)
    refine lv_aload_n hx hb dX8_goOn_21 rfl (lv_at hl 0 rfl) ?_
    refine lv_iconst (v := (0 : Int32)) hx hb dX8_goOn_22 (by decide) ?_
    refine va_put (D := gD g) (ci := 8) (C := RX8) (T := TX8) (N := 5) (v := .int (0 : Int32)) (ty := .int) hx hb hts (fun w h => List.mem_cons_of_mem _ (isX80 w h)) tyX8 tyX8_ok nmX8 hown hK hI.1 hI.2.1 hI.2.2 8 rfl rfl 4 (by decide) (hts _ (List.mem_cons_of_mem _ mw149)) (fun _ h9 => h9) rfl (by decide +kernel) rfl rfl (Nat.le_of_ble_eq_true rfl) dX8_goOn_23 (fun H locs hP hD hS => ?_)
    have hI : cI (gD g) vwCl (cw g) A s (sI st 9 (0 : Int32)) H locs := ⟨hP, hD, hS⟩
    refine lv_aload_n hx hb dX8_goOn_26 rfl (lv_at hl 0 rfl) ?_
    refine va_get (D := gD g) (ci := 8) (C := RX8) (T := TX8) (N := 5) (v := .ref (gad g 7)) hx hb hts (fun w h => List.mem_cons_of_mem _ (isX80 w h)) hown hK hI.1 8 rfl rfl 0 (by decide) (hts _ (List.mem_cons_of_mem _ mw67)) (fun _ h9 => h9) rfl dX8_goOn_27 ?_
    refine lv_dup hx hb dX8_goOn_30 rfl ?_
    refine va_get (D := gD g) (ci := 4) (C := RX4) (T := TX4) (N := 6) (v := .int (gI st 3)) hx hb hts (fun w h => List.mem_cons_of_mem _ (isX40 w h)) hown hK hI.1 7 rfl rfl 1 (by decide) (hts _ (List.mem_cons_of_mem _ mw289)) (fun _ h9 => h9) rfl dX8_goOn_31 ?_
    refine lv_bipush (v := (64 : Int32)) hx hb dX8_goOn_34 (by decide) ?_
    refine lv_ior hx hb dX8_goOn_36 ?_
    refine va_put (D := gD g) (ci := 4) (C := RX4) (T := TX4) (N := 6) (v := .int ((gI st 3) ||| (64 : Int32))) (ty := .int) hx hb hts (fun w h => List.mem_cons_of_mem _ (isX40 w h)) tyX4 tyX4_ok nmX4 hown hK hI.1 hI.2.1 hI.2.2 7 rfl rfl 1 (by decide) (hts _ (List.mem_cons_of_mem _ mw289)) (fun _ h9 => h9) rfl (by decide +kernel) rfl rfl (Nat.le_of_ble_eq_true rfl) dX8_goOn_37 (fun H locs hP hD hS => ?_)
    have hI : cI (gD g) vwCl (cw g) A s (sI (sI st 9 (0 : Int32)) 3 ((gI st 3) ||| (64 : Int32))) H locs := ⟨hP, hD, hS⟩
    exact cx_vret C hI hF dX8_goOn_40
  · have hF := hF.trans (if_neg c_5)
    refine lv_aload_n hx hb dX8_goOn_8 rfl (lv_at hl 0 rfl) ?_
    refine lv_dup hx hb dX8_goOn_9 rfl ?_
    refine va_get (D := gD g) (ci := 8) (C := RX8) (T := TX8) (N := 5) (v := .int (gI st 9)) hx hb hts (fun w h => List.mem_cons_of_mem _ (isX80 w h)) hown hK hI.1 8 rfl rfl 4 (by decide) (hts _ (List.mem_cons_of_mem _ mw149)) (fun _ h9 => h9) rfl dX8_goOn_10 ?_
    refine lv_iload_n hx hb dX8_goOn_13 rfl (lv_at hl 1 rfl) ?_
    refine lv_isub hx hb dX8_goOn_14 ?_
    refine va_put (D := gD g) (ci := 8) (C := RX8) (T := TX8) (N := 5) (v := .int ((gI st 9) - x1)) (ty := .int) hx hb hts (fun w h => List.mem_cons_of_mem _ (isX80 w h)) tyX8 tyX8_ok nmX8 hown hK hI.1 hI.2.1 hI.2.2 8 rfl rfl 4 (by decide) (hts _ (List.mem_cons_of_mem _ mw149)) (fun _ h9 => h9) rfl (by decide +kernel) rfl rfl (Nat.le_of_ble_eq_true rfl) dX8_goOn_15 (fun H locs hP hD hS => ?_)
    have hI : cI (gD g) vwCl (cw g) A s (sI st 9 ((gI st 9) - x1)) H locs := ⟨hP, hD, hS⟩
    refine lv_goto (tgt := 40) hx hb dX8_goOn_18 (by decide) ?_
    exact cx_vret C hI hF dX8_goOn_40
set_option maxHeartbeats 4000000 in
set_option maxRecDepth 100000 in
theorem c_cSerial_goOn (l : Launch) (g : Gm) (st : CS) (x1 : Int32) : Mv l yX8_goOn wq_X8_goOn rm_cSerial_goOn (gD g) vwCl (cty g) (cw g) (cz g) [.ref (gad g 8), .int x1] st (cSerial_goOn st x1) := by
  intro sz
  refine Met.ofW (cc := cX8_goOn) (maxL := 2) (ret := none) (by decide) rfl ?_
  intro p e s m args below meth c s₁ B hml hv
  obtain ⟨rfl, hsz, hP, hK, hD0, hZ⟩ := hv
  subst hsz
  have hl := lv_entry ([.ref (gad g 8), .int x1]) (n := 2) (Nat.le_of_ble_eq_true rfl)
  rw [lg_entry_eq]
  generalize (lg_sl ([.ref (gad g 8), .int x1]) ++ List.replicate (2 - (lg_sl ([.ref (gad g 8), .int x1])).length) Slot.unset).toArray = ls at hl ⊢
  exact k_cSerial_goOn g ⟨B.exec, B.bytes, B.returns, hml, findClass_of_methodNamed B.named, atoms_spec (ws := wq_X8_goOn) B.pre, B.notSynchronized, hK, fun q h => Or.inr h, hZ, cz_ok g⟩ st x1 _ _ ls ⟨hP, hD0.self, va_S.rf⟩ hl _ rfl
abbrev wq_X2_isWord : List Cond := .code yX2_isWord cX2_isWord 2 (some .boolean) :: wAll
theorem yd_yX2_isWord : yX2_isWord.cls ≠ "java/lang/invoke/MethodHandle" ∧ yX2_isWord.cls ≠ "java/lang/invoke/VarHandle" ∧ (parseMethodDescriptor yX2_isWord.desc).map (fun d => d.parameters.length) = some 2 := by decide +kernel
abbrev rm_cDisk_isWord : Room := { frames := 0, cells := 0, slots := 0, locals := 0 }
def cDisk_isWord (x0 : Int32) (x1 : Int32) : Int32 := (if (x0 < 0) then (0 : Int32) else (if ((16 : Int32) ≤ x0) then (0 : Int32) else (if (x1 < 0) then (0 : Int32) else (if ((1024 : Int32) ≤ x1) then (0 : Int32) else (1 : Int32)))))
set_option maxHeartbeats 4000000 in
set_option maxRecDepth 100000 in
theorem k_cDisk_isWord {p : Program} {l : Launch} {e : Env} {s : State} {m : MethodId} {args : Array Value} {below : List Frame} {meth : Method} {c : Code} {A : Nat → Prop} (g : Gm) (C : cX p s m args meth c A cX2_isWord (some .boolean) 2 RX2 wq_X2_isWord (gD g) vwCl (cty g) (cz g)) (st : CS) (x0 : Int32) (x1 : Int32) (H : Heap) (locs : List Loc) (ls : Array Slot) (hI : cI (gD g) vwCl (cw g) A s st H locs) (hl : lv_has ls 2 [(0, .int x0), (1, .int x1)]) (X : Int32) (hF : X = cDisk_isWord x0 x1) : W p l e rm_cDisk_isWord s m args below meth c H locs 0 0 (MQ below (cQi (gD g) vwCl (cty g) (cw g) A st X) args s 0 0 A) (F0 m 0 ls []) := by
  obtain ⟨hx, hb, hr, hml, hown, hts, hlocks, hK, hA, hZ, hzo⟩ := id C
  unfold cDisk_isWord at hF
  refine lv_iload_n hx hb dX2_isWord_0 rfl (lv_at hl 0 rfl) ?_
  refine lv_if_lt (tgt := 25) hx hb dX2_isWord_1 (by decide) (fun c_1 => ?_) (fun c_1 => ?_)
  · have hF := hF.trans (if_pos c_1)
    refine lv_iconst (v := (0 : Int32)) hx hb dX2_isWord_25 (by decide) ?_
    exact cx_zret C hI rfl hF rfl dX2_isWord_26
  · have hF := hF.trans (if_neg c_1)
    refine lv_iload_n hx hb dX2_isWord_4 rfl (lv_at hl 0 rfl) ?_
    refine lv_bipush (v := (16 : Int32)) hx hb dX2_isWord_5 (by decide) ?_
    refine lv_icmp_ge (tgt := 25) hx hb dX2_isWord_7 (by decide) (fun c_7 => ?_) (fun c_7 => ?_)
    · have hF := hF.trans (if_pos c_7)
      refine lv_iconst (v := (0 : Int32)) hx hb dX2_isWord_25 (by decide) ?_
      exact cx_zret C hI rfl hF rfl dX2_isWord_26
    · have hF := hF.trans (if_neg c_7)
      refine lv_iload_n hx hb dX2_isWord_10 rfl (lv_at hl 1 rfl) ?_
      refine lv_if_lt (tgt := 25) hx hb dX2_isWord_11 (by decide) (fun c_11 => ?_) (fun c_11 => ?_)
      · have hF := hF.trans (if_pos c_11)
        refine lv_iconst (v := (0 : Int32)) hx hb dX2_isWord_25 (by decide) ?_
        exact cx_zret C hI rfl hF rfl dX2_isWord_26
      · have hF := hF.trans (if_neg c_11)
        refine lv_iload_n hx hb dX2_isWord_14 rfl (lv_at hl 1 rfl) ?_
        refine lv_sipush (v := (1024 : Int32)) hx hb dX2_isWord_15 (by decide) ?_
        refine lv_icmp_ge (tgt := 25) hx hb dX2_isWord_18 (by decide) (fun c_18 => ?_) (fun c_18 => ?_)
        · have hF := hF.trans (if_pos c_18)
          refine lv_iconst (v := (0 : Int32)) hx hb dX2_isWord_25 (by decide) ?_
          exact cx_zret C hI rfl hF rfl dX2_isWord_26
        · have hF := hF.trans (if_neg c_18)
          refine lv_iconst (v := (1 : Int32)) hx hb dX2_isWord_21 (by decide) ?_
          refine lv_goto (tgt := 26) hx hb dX2_isWord_22 (by decide) ?_
          exact cx_zret C hI rfl hF rfl dX2_isWord_26
set_option maxHeartbeats 4000000 in
set_option maxRecDepth 100000 in
theorem c_cDisk_isWord (l : Launch) (g : Gm) (st : CS) (x0 : Int32) (x1 : Int32) : Mi l yX2_isWord wq_X2_isWord rm_cDisk_isWord (gD g) vwCl (cty g) (cw g) (cz g) [.int x0, .int x1] st st (cDisk_isWord x0 x1) := by
  intro sz
  refine Met.ofW (cc := cX2_isWord) (maxL := 2) (ret := (some .boolean)) (by decide) rfl ?_
  intro p e s m args below meth c s₁ B hml hv
  obtain ⟨rfl, hsz, hP, hK, hD0, hZ⟩ := hv
  subst hsz
  have hl := lv_entry ([.int x0, .int x1]) (n := 2) (Nat.le_of_ble_eq_true rfl)
  rw [lg_entry_eq]
  generalize (lg_sl ([.int x0, .int x1]) ++ List.replicate (2 - (lg_sl ([.int x0, .int x1])).length) Slot.unset).toArray = ls at hl ⊢
  exact k_cDisk_isWord g ⟨B.exec, B.bytes, B.returns, hml, findClass_of_methodNamed B.named, atoms_spec (ws := wq_X2_isWord) B.pre, B.notSynchronized, hK, fun q h => Or.inr h, hZ, cz_ok g⟩ st x0 x1 _ _ ls ⟨hP, hD0.self, va_S.rf⟩ hl _ rfl
abbrev wq_X2_begin : List Cond := .code yX2_begin cX2_begin 1 none :: wAll
theorem yd_yX2_begin : yX2_begin.cls = RX2 ∧ yX2_begin.cls ≠ "java/lang/invoke/MethodHandle" ∧ yX2_begin.cls ≠ "java/lang/invoke/VarHandle" ∧ (parseMethodDescriptor yX2_begin.desc).map (fun d => d.parameters.length) = some 0 := by decide +kernel
abbrev rm_cDisk_begin : Room := { frames := 0, cells := 0, slots := 0, locals := 0 }
def cDisk_begin (st : CS) : CS := (sI (sI (sI (sI st 10 (0 : Int32)) 11 (0 : Int32)) 12 (0 : Int32)) 16 (0 : Int32))
set_option maxHeartbeats 4000000 in
set_option maxRecDepth 100000 in
theorem k_cDisk_begin {p : Program} {l : Launch} {e : Env} {s : State} {m : MethodId} {args : Array Value} {below : List Frame} {meth : Method} {c : Code} {A : Nat → Prop} (g : Gm) (C : cX p s m args meth c A cX2_begin none 1 RX2 wq_X2_begin (gD g) vwCl (cty g) (cz g)) (st : CS) (H : Heap) (locs : List Loc) (ls : Array Slot) (hI : cI (gD g) vwCl (cw g) A s st H locs) (hl : lv_has ls 1 [(0, .ref (gad g 10))]) (X : CS) (hF : X = cDisk_begin st) : W p l e rm_cDisk_begin s m args below meth c H locs 0 0 (MQ below (cQv (gD g) vwCl (cty g) (cw g) A X) args s 0 0 A) (F0 m 0 ls []) := by
  obtain ⟨hx, hb, hr, hml, hown, hts, hlocks, hK, hA, hZ, hzo⟩ := id C
  unfold cDisk_begin at hF
  refine lv_aload_n hx hb dX2_begin_0 rfl (lv_at hl 0 rfl) ?_
  refine lv_iconst (v := (0 : Int32)) hx hb dX2_begin_1 (by decide) ?_
  refine va_put (D := gD g) (ci := 2) (C := RX2) (T := TX2) (N := 11) (v := .int (0 : Int32)) (ty := .int) hx hb hts (fun w h => List.mem_cons_of_mem _ (isX20 w h)) tyX2 tyX2_ok nmX2 hown hK hI.1 hI.2.1 hI.2.2 10 rfl rfl 3 (by decide) (hts _ (List.mem_cons_of_mem _ mw154)) (fun _ h9 => h9) rfl (by decide +kernel) rfl rfl (Nat.le_of_ble_eq_true rfl) dX2_begin_2 (fun H locs hP hD hS => ?_)
  have hI : cI (gD g) vwCl (cw g) A s (sI st 10 (0 : Int32)) H locs := ⟨hP, hD, hS⟩
  refine lv_aload_n hx hb dX2_begin_5 rfl (lv_at hl 0 rfl) ?_
  refine lv_iconst (v := (0 : Int32)) hx hb dX2_begin_6 (by decide) ?_
  refine va_put (D := gD g) (ci := 2) (C := RX2) (T := TX2) (N := 11) (v := .int (0 : Int32)) (ty := .int) hx hb hts (fun w h => List.mem_cons_of_mem _ (isX20 w h)) tyX2 tyX2_ok nmX2 hown hK hI.1 hI.2.1 hI.2.2 10 rfl rfl 4 (by decide) (hts _ (List.mem_cons_of_mem _ mw155)) (fun _ h9 => h9) rfl (by decide +kernel) rfl rfl (Nat.le_of_ble_eq_true rfl) dX2_begin_7 (fun H locs hP hD hS => ?_)
  have hI : cI (gD g) vwCl (cw g) A s (sI (sI st 10 (0 : Int32)) 11 (0 : Int32)) H locs := ⟨hP, hD, hS⟩
  refine lv_aload_n hx hb dX2_begin_10 rfl (lv_at hl 0 rfl) ?_
  refine lv_iconst (v := (0 : Int32)) hx hb dX2_begin_11 (by decide) ?_
  refine va_put (D := gD g) (ci := 2) (C := RX2) (T := TX2) (N := 11) (v := .int (0 : Int32)) (ty := .boolean) hx hb hts (fun w h => List.mem_cons_of_mem _ (isX20 w h)) tyX2 tyX2_ok nmX2 hown hK hI.1 hI.2.1 hI.2.2 10 rfl rfl 5 (by decide) (hts _ (List.mem_cons_of_mem _ mw156)) (fun _ h9 => h9) rfl (by decide +kernel) rfl rfl (Nat.le_of_ble_eq_true rfl) dX2_begin_12 (fun H locs hP hD hS => ?_)
  have hI : cI (gD g) vwCl (cw g) A s (sI (sI (sI st 10 (0 : Int32)) 11 (0 : Int32)) 12 (0 : Int32)) H locs := ⟨hP, hD, hS⟩
  refine lv_aload_n hx hb dX2_begin_15 rfl (lv_at hl 0 rfl) ?_
  refine lv_iconst (v := (0 : Int32)) hx hb dX2_begin_16 (by decide) ?_
  refine va_put (D := gD g) (ci := 2) (C := RX2) (T := TX2) (N := 11) (v := .int (0 : Int32)) (ty := .int) hx hb hts (fun w h => List.mem_cons_of_mem _ (isX20 w h)) tyX2 tyX2_ok nmX2 hown hK hI.1 hI.2.1 hI.2.2 10 rfl rfl 9 (by decide) (hts _ (List.mem_cons_of_mem _ mw157)) (fun _ h9 => h9) rfl (by decide +kernel) rfl rfl (Nat.le_of_ble_eq_true rfl) dX2_begin_17 (fun H locs hP hD hS => ?_)
  have hI : cI (gD g) vwCl (cw g) A s (sI (sI (sI (sI st 10 (0 : Int32)) 11 (0 : Int32)) 12 (0 : Int32)) 16 (0 : Int32)) H locs := ⟨hP, hD, hS⟩
  exact cx_vret C hI hF dX2_begin_20
set_option maxHeartbeats 4000000 in
set_option maxRecDepth 100000 in
theorem c_cDisk_begin (l : Launch) (g : Gm) (st : CS) : Mv l yX2_begin wq_X2_begin rm_cDisk_begin (gD g) vwCl (cty g) (cw g) (cz g) [.ref (gad g 10)] st (cDisk_begin st) := by
  intro sz
  refine Met.ofW (cc := cX2_begin) (maxL := 1) (ret := none) (by decide) rfl ?_
  intro p e s m args below meth c s₁ B hml hv
  obtain ⟨rfl, hsz, hP, hK, hD0, hZ⟩ := hv
  subst hsz
  have hl := lv_entry ([.ref (gad g 10)]) (n := 1) (Nat.le_of_ble_eq_true rfl)
  rw [lg_entry_eq]
  generalize (lg_sl ([.ref (gad g 10)]) ++ List.replicate (1 - (lg_sl ([.ref (gad g 10)])).length) Slot.unset).toArray = ls at hl ⊢
  exact k_cDisk_begin g ⟨B.exec, B.bytes, B.returns, hml, findClass_of_methodNamed B.named, atoms_spec (ws := wq_X2_begin) B.pre, B.notSynchronized, hK, fun q h => Or.inr h, hZ, cz_ok g⟩ st  _ _ ls ⟨hP, hD0.self, va_S.rf⟩ hl _ rfl
abbrev wq_X2_wordOf : List Cond := .code yX2_wordOf cX2_wordOf 3 (some .int) :: wAll
theorem yd_yX2_wordOf : yX2_wordOf.cls = RX2 ∧ yX2_wordOf.cls ≠ "java/lang/invoke/MethodHandle" ∧ yX2_wordOf.cls ≠ "java/lang/invoke/VarHandle" ∧ (parseMethodDescriptor yX2_wordOf.desc).map (fun d => d.parameters.length) = some 2 := by decide +kernel
abbrev rm_cDisk_wordOf : Room := { frames := 0, cells := 0, slots := 0, locals := 0 }
def cDisk_wordOf (st : CS) (x1 : Int32) (x2 : Int32) : Int32 := ((gA st 5) (((x1 &&& (15 : Int32)) * (1024 : Int32)) + (x2 &&& (1023 : Int32))).toNatClampNeg)
set_option maxHeartbeats 4000000 in
set_option maxRecDepth 100000 in
theorem k_cDisk_wordOf {p : Program} {l : Launch} {e : Env} {s : State} {m : MethodId} {args : Array Value} {below : List Frame} {meth : Method} {c : Code} {A : Nat → Prop} (g : Gm) (C : cX p s m args meth c A cX2_wordOf (some .int) 3 RX2 wq_X2_wordOf (gD g) vwCl (cty g) (cz g)) (st : CS) (x1 : Int32) (x2 : Int32) (H : Heap) (locs : List Loc) (ls : Array Slot) (hI : cI (gD g) vwCl (cw g) A s st H locs) (hl : lv_has ls 3 [(0, .ref (gad g 10)), (1, .int x1), (2, .int x2)]) (X : Int32) (hF : X = cDisk_wordOf st x1 x2) : W p l e rm_cDisk_wordOf s m args below meth c H locs 0 0 (MQ below (cQi (gD g) vwCl (cty g) (cw g) A st X) args s 0 0 A) (F0 m 0 ls []) := by
  obtain ⟨hx, hb, hr, hml, hown, hts, hlocks, hK, hA, hZ, hzo⟩ := id C
  unfold cDisk_wordOf at hF
  refine lv_aload_n hx hb dX2_wordOf_0 rfl (lv_at hl 0 rfl) ?_
  refine va_get (D := gD g) (ci := 2) (C := RX2) (T := TX2) (N := 11) (v := .ref (gad g 11)) hx hb hts (fun w h => List.mem_cons_of_mem _ (isX20 w h)) hown hK hI.1 10 rfl rfl 2 (by decide) (hts _ (List.mem_cons_of_mem _ mw72)) (fun _ h9 => h9) rfl dX2_wordOf_1 ?_
  refine lv_iload_n hx hb dX2_wordOf_4 rfl (lv_at hl 1 rfl) ?_
  refine lv_bipush (v := (15 : Int32)) hx hb dX2_wordOf_5 (by decide) ?_
  refine lv_iand hx hb dX2_wordOf_7 ?_
  refine lv_sipush (v := (1024 : Int32)) hx hb dX2_wordOf_8 (by decide) ?_
  refine lv_imul hx hb dX2_wordOf_11 ?_
  refine lv_iload_n hx hb dX2_wordOf_12 rfl (lv_at hl 2 rfl) ?_
  refine lv_sipush (v := (1023 : Int32)) hx hb dX2_wordOf_13 (by decide) ?_
  refine lv_iand hx hb dX2_wordOf_16 ?_
  refine lv_iadd hx hb dX2_wordOf_17 ?_
  refine va_iald (f := (gA st 5)) hx hb hK hI.1 11 5 rfl rfl (vin_sec x1 x2) dX2_wordOf_18 ?_
  exact cx_iret C hI rfl hF dX2_wordOf_19
set_option maxHeartbeats 4000000 in
set_option maxRecDepth 100000 in
theorem c_cDisk_wordOf (l : Launch) (g : Gm) (st : CS) (x1 : Int32) (x2 : Int32) : Mi l yX2_wordOf wq_X2_wordOf rm_cDisk_wordOf (gD g) vwCl (cty g) (cw g) (cz g) [.ref (gad g 10), .int x1, .int x2] st st (cDisk_wordOf st x1 x2) := by
  intro sz
  refine Met.ofW (cc := cX2_wordOf) (maxL := 3) (ret := (some .int)) (by decide) rfl ?_
  intro p e s m args below meth c s₁ B hml hv
  obtain ⟨rfl, hsz, hP, hK, hD0, hZ⟩ := hv
  subst hsz
  have hl := lv_entry ([.ref (gad g 10), .int x1, .int x2]) (n := 3) (Nat.le_of_ble_eq_true rfl)
  rw [lg_entry_eq]
  generalize (lg_sl ([.ref (gad g 10), .int x1, .int x2]) ++ List.replicate (3 - (lg_sl ([.ref (gad g 10), .int x1, .int x2])).length) Slot.unset).toArray = ls at hl ⊢
  exact k_cDisk_wordOf g ⟨B.exec, B.bytes, B.returns, hml, findClass_of_methodNamed B.named, atoms_spec (ws := wq_X2_wordOf) B.pre, B.notSynchronized, hK, fun q h => Or.inr h, hZ, cz_ok g⟩ st x1 x2 _ _ ls ⟨hP, hD0.self, va_S.rf⟩ hl _ rfl
abbrev wq_X2_change : List Cond := .code yX2_change cX2_change 4 none :: wAll
theorem yd_yX2_change : yX2_change.cls = RX2 ∧ yX2_change.cls ≠ "java/lang/invoke/MethodHandle" ∧ yX2_change.cls ≠ "java/lang/invoke/VarHandle" ∧ (parseMethodDescriptor yX2_change.desc).map (fun d => d.parameters.length) = some 3 := by decide +kernel
abbrev rm_cDisk_change : Room := { frames := 0, cells := 0, slots := 0, locals := 0 }
def cDisk_change (st : CS) (x1 : Int32) (x2 : Int32) (x3 : Int32) : CS := (sA st 5 (upd (gA st 5) (((x1 &&& (15 : Int32)) * (1024 : Int32)) + (x2 &&& (1023 : Int32))).toNatClampNeg x3))
set_option maxHeartbeats 4000000 in
set_option maxRecDepth 100000 in
theorem k_cDisk_change {p : Program} {l : Launch} {e : Env} {s : State} {m : MethodId} {args : Array Value} {below : List Frame} {meth : Method} {c : Code} {A : Nat → Prop} (g : Gm) (C : cX p s m args meth c A cX2_change none 4 RX2 wq_X2_change (gD g) vwCl (cty g) (cz g)) (st : CS) (x1 : Int32) (x2 : Int32) (x3 : Int32) (H : Heap) (locs : List Loc) (ls : Array Slot) (hI : cI (gD g) vwCl (cw g) A s st H locs) (hl : lv_has ls 4 [(0, .ref (gad g 10)), (1, .int x1), (2, .int x2), (3, .int x3)]) (X : CS) (hF : X = cDisk_change st x1 x2 x3) : W p l e rm_cDisk_change s m args below meth c H locs 0 0 (MQ below (cQv (gD g) vwCl (cty g) (cw g) A X) args s 0 0 A) (F0 m 0 ls []) := by
  obtain ⟨hx, hb, hr, hml, hown, hts, hlocks, hK, hA, hZ, hzo⟩ := id C
  unfold cDisk_change at hF
  refine lv_aload_n hx hb dX2_change_0 rfl (lv_at hl 0 rfl) ?_
  refine va_get (D := gD g) (ci := 2) (C := RX2) (T := TX2) (N := 11) (v := .ref (gad g 11)) hx hb hts (fun w h => List.mem_cons_of_mem _ (isX20 w h)) hown hK hI.1 10 rfl rfl 2 (by decide) (hts _ (List.mem_cons_of_mem _ mw72)) (fun _ h9 => h9) rfl dX2_change_1 ?_
  refine lv_iload_n hx hb dX2_change_4 rfl (lv_at hl 1 rfl) ?_
  refine lv_bipush (v := (15 : Int32)) hx hb dX2_change_5 (by decide) ?_
  refine lv_iand hx hb dX2_change_7 ?_
  refine lv_sipush (v := (1024 : Int32)) hx hb dX2_change_8 (by decide) ?_
  refine lv_imul hx hb dX2_change_11 ?_
  refine lv_iload_n hx hb dX2_change_12 rfl (lv_at hl 2 rfl) ?_
  refine lv_sipush (v := (1023 : Int32)) hx hb dX2_change_13 (by decide) ?_
  refine lv_iand hx hb dX2_change_16 ?_
  refine lv_iadd hx hb dX2_change_17 ?_
  refine lv_iload_n hx hb dX2_change_18 rfl (lv_at hl 3 rfl) ?_
  refine va_iast (f := (gA st 5)) hx hb hK hI.1 hI.2.1 hI.2.2 11 5 rfl rfl (vin_sec x1 x2) dX2_change_19 (fun H locs hP hD hS => ?_)
  have hI : cI (gD g) vwCl (cw g) A s (sA st 5 (upd (gA st 5) (((x1 &&& (15 : Int32)) * (1024 : Int32)) + (x2 &&& (1023 : Int32))).toNatClampNeg x3)) H locs := ⟨hP, hD, hS⟩
  exact cx_vret C hI hF dX2_change_20
set_option maxHeartbeats 4000000 in
set_option maxRecDepth 100000 in
theorem c_cDisk_change (l : Launch) (g : Gm) (st : CS) (x1 : Int32) (x2 : Int32) (x3 : Int32) : Mv l yX2_change wq_X2_change rm_cDisk_change (gD g) vwCl (cty g) (cw g) (cz g) [.ref (gad g 10), .int x1, .int x2, .int x3] st (cDisk_change st x1 x2 x3) := by
  intro sz
  refine Met.ofW (cc := cX2_change) (maxL := 4) (ret := none) (by decide) rfl ?_
  intro p e s m args below meth c s₁ B hml hv
  obtain ⟨rfl, hsz, hP, hK, hD0, hZ⟩ := hv
  subst hsz
  have hl := lv_entry ([.ref (gad g 10), .int x1, .int x2, .int x3]) (n := 4) (Nat.le_of_ble_eq_true rfl)
  rw [lg_entry_eq]
  generalize (lg_sl ([.ref (gad g 10), .int x1, .int x2, .int x3]) ++ List.replicate (4 - (lg_sl ([.ref (gad g 10), .int x1, .int x2, .int x3])).length) Slot.unset).toArray = ls at hl ⊢
  exact k_cDisk_change g ⟨B.exec, B.bytes, B.returns, hml, findClass_of_methodNamed B.named, atoms_spec (ws := wq_X2_change) B.pre, B.notSynchronized, hK, fun q h => Or.inr h, hZ, cz_ok g⟩ st x1 x2 x3 _ _ ls ⟨hP, hD0.self, va_S.rf⟩ hl _ rfl
abbrev wq_X2_read : List Cond := .code yX2_read cX2_read 2 (some .int) :: wAll
theorem yd_yX2_read : yX2_read.cls = RX2 ∧ yX2_read.cls ≠ "java/lang/invoke/MethodHandle" ∧ yX2_read.cls ≠ "java/lang/invoke/VarHandle" ∧ (parseMethodDescriptor yX2_read.desc).map (fun d => d.parameters.length) = some 1 := by decide +kernel
abbrev rm_cDisk_read : Room := { frames := 0, cells := 0, slots := 0, locals := 0 }
def cDisk_read (st : CS) (x1 : Int32) : Int32 := (if x1 = (0 : Int32) then (gI st 10) else (if x1 = (1 : Int32) then (gI st 11) else (if x1 = (2 : Int32) then (if ((gI st 16) ≤ 0) then (if ((gI st 12) = 0) then (0 : Int32) else (2 : Int32)) else (1 : Int32)) else (0 : Int32))))
set_option maxHeartbeats 4000000 in
set_option maxRecDepth 100000 in
theorem k_cDisk_read {p : Program} {l : Launch} {e : Env} {s : State} {m : MethodId} {args : Array Value} {below : List Frame} {meth : Method} {c : Code} {A : Nat → Prop} (g : Gm) (C : cX p s m args meth c A cX2_read (some .int) 2 RX2 wq_X2_read (gD g) vwCl (cty g) (cz g)) (st : CS) (x1 : Int32) (H : Heap) (locs : List Loc) (ls : Array Slot) (hI : cI (gD g) vwCl (cw g) A s st H locs) (hl : lv_has ls 2 [(0, .ref (gad g 10)), (1, .int x1)]) (X : Int32) (hF : X = cDisk_read st x1) : W p l e rm_cDisk_read s m args below meth c H locs 0 0 (MQ below (cQi (gD g) vwCl (cty g) (cw g) A st X) args s 0 0 A) (F0 m 0 ls []) := by
  obtain ⟨hx, hb, hr, hml, hown, hts, hlocks, hK, hA, hZ, hzo⟩ := id C
  unfold cDisk_read at hF
  refine lv_iload_n hx hb dX2_read_0 rfl (lv_at hl 1 rfl) ?_
  by_cases c_1_0 : x1 = (0 : Int32)
  · have hF := hF.trans (if_pos c_1_0)
    refine lv_tableIn (off := 27) (tgt := 28) hx hb dX2_read_1 (by rw [c_1_0]; decide) (by rw [c_1_0]; decide) (by rw [c_1_0]; rfl) (by decide) ?_
    refine lv_aload_n hx hb dX2_read_28 rfl (lv_at hl 0 rfl) ?_
    refine va_get (D := gD g) (ci := 2) (C := RX2) (T := TX2) (N := 11) (v := .int (gI st 10)) hx hb hts (fun w h => List.mem_cons_of_mem _ (isX20 w h)) hown hK hI.1 10 rfl rfl 3 (by decide) (hts _ (List.mem_cons_of_mem _ mw154)) (fun _ h9 => h9) rfl dX2_read_29 ?_
    exact cx_iret C hI rfl hF dX2_read_32
  · have hF := hF.trans (if_neg c_1_0)
    by_cases c_1_1 : x1 = (1 : Int32)
    · have hF := hF.trans (if_pos c_1_1)
      refine lv_tableIn (off := 32) (tgt := 33) hx hb dX2_read_1 (by rw [c_1_1]; decide) (by rw [c_1_1]; decide) (by rw [c_1_1]; rfl) (by decide) ?_
      refine lv_aload_n hx hb dX2_read_33 rfl (lv_at hl 0 rfl) ?_
      refine va_get (D := gD g) (ci := 2) (C := RX2) (T := TX2) (N := 11) (v := .int (gI st 11)) hx hb hts (fun w h => List.mem_cons_of_mem _ (isX20 w h)) hown hK hI.1 10 rfl rfl 4 (by decide) (hts _ (List.mem_cons_of_mem _ mw155)) (fun _ h9 => h9) rfl dX2_read_34 ?_
      exact cx_iret C hI rfl hF dX2_read_37
    · have hF := hF.trans (if_neg c_1_1)
      by_cases c_1_2 : x1 = (2 : Int32)
      · have hF := hF.trans (if_pos c_1_2)
        refine lv_tableIn (off := 37) (tgt := 38) hx hb dX2_read_1 (by rw [c_1_2]; decide) (by rw [c_1_2]; decide) (by rw [c_1_2]; rfl) (by decide) ?_
        refine lv_aload_n hx hb dX2_read_38 rfl (lv_at hl 0 rfl) ?_
        refine va_get (D := gD g) (ci := 2) (C := RX2) (T := TX2) (N := 11) (v := .int (gI st 16)) hx hb hts (fun w h => List.mem_cons_of_mem _ (isX20 w h)) hown hK hI.1 10 rfl rfl 9 (by decide) (hts _ (List.mem_cons_of_mem _ mw157)) (fun _ h9 => h9) rfl dX2_read_39 ?_
        refine lv_if_le (tgt := 49) hx hb dX2_read_42 (by decide) (fun c_42 => ?_) (fun c_42 => ?_)
        · have hF := hF.trans (if_pos c_42)
          refine lv_aload_n hx hb dX2_read_49 rfl (lv_at hl 0 rfl) ?_
          refine va_get (D := gD g) (ci := 2) (C := RX2) (T := TX2) (N := 11) (v := .int (gI st 12)) hx hb hts (fun w h => List.mem_cons_of_mem _ (isX20 w h)) hown hK hI.1 10 rfl rfl 5 (by decide) (hts _ (List.mem_cons_of_mem _ mw156)) (fun _ h9 => h9) rfl dX2_read_50 ?_
          refine lv_if_eq (tgt := 60) hx hb dX2_read_53 (by decide) (fun c_53 => ?_) (fun c_53 => ?_)
          · have hF := hF.trans (if_pos c_53)
            refine lv_iconst (v := (0 : Int32)) hx hb dX2_read_60 (by decide) ?_
            exact cx_iret C hI rfl hF dX2_read_61
          · have hF := hF.trans (if_neg c_53)
            refine lv_iconst (v := (2 : Int32)) hx hb dX2_read_56 (by decide) ?_
            refine lv_goto (tgt := 61) hx hb dX2_read_57 (by decide) ?_
            exact cx_iret C hI rfl hF dX2_read_61
        · have hF := hF.trans (if_neg c_42)
          refine lv_iconst (v := (1 : Int32)) hx hb dX2_read_45 (by decide) ?_
          refine lv_goto (tgt := 61) hx hb dX2_read_46 (by decide) ?_
          exact cx_iret C hI rfl hF dX2_read_61
      · have hF := hF.trans (if_neg c_1_2)
        refine lv_tableOut (tgt := 62) hx hb dX2_read_1 (by have h0 := lv_neT (a := 0) c_1_0 (by decide); have h1 := lv_neT (a := 1) c_1_1 (by decide); have h2 := lv_neT (a := 2) c_1_2 (by decide); omega) (by decide) ?_
        refine lv_iconst (v := (0 : Int32)) hx hb dX2_read_62 (by decide) ?_
        exact cx_iret C hI rfl hF dX2_read_63
set_option maxHeartbeats 4000000 in
set_option maxRecDepth 100000 in
theorem c_cDisk_read (l : Launch) (g : Gm) (st : CS) (x1 : Int32) : Mi l yX2_read wq_X2_read rm_cDisk_read (gD g) vwCl (cty g) (cw g) (cz g) [.ref (gad g 10), .int x1] st st (cDisk_read st x1) := by
  intro sz
  refine Met.ofW (cc := cX2_read) (maxL := 2) (ret := (some .int)) (by decide) rfl ?_
  intro p e s m args below meth c s₁ B hml hv
  obtain ⟨rfl, hsz, hP, hK, hD0, hZ⟩ := hv
  subst hsz
  have hl := lv_entry ([.ref (gad g 10), .int x1]) (n := 2) (Nat.le_of_ble_eq_true rfl)
  rw [lg_entry_eq]
  generalize (lg_sl ([.ref (gad g 10), .int x1]) ++ List.replicate (2 - (lg_sl ([.ref (gad g 10), .int x1])).length) Slot.unset).toArray = ls at hl ⊢
  exact k_cDisk_read g ⟨B.exec, B.bytes, B.returns, hml, findClass_of_methodNamed B.named, atoms_spec (ws := wq_X2_read) B.pre, B.notSynchronized, hK, fun q h => Or.inr h, hZ, cz_ok g⟩ st x1 _ _ ls ⟨hP, hD0.self, va_S.rf⟩ hl _ rfl
abbrev wq_X2_beginCopy : List Cond := .code yX2_beginCopy cX2_beginCopy 2 none :: wAll
theorem yd_yX2_beginCopy : yX2_beginCopy.cls = RX2 ∧ yX2_beginCopy.cls ≠ "java/lang/invoke/MethodHandle" ∧ yX2_beginCopy.cls ≠ "java/lang/invoke/VarHandle" ∧ (parseMethodDescriptor yX2_beginCopy.desc).map (fun d => d.parameters.length) = some 1 := by decide +kernel
abbrev rm_cDisk_beginCopy : Room := { frames := 0, cells := 0, slots := 0, locals := 0 }
def cDisk_beginCopy (st : CS) (x1 : Int32) : CS := (sI (sI (sI (sI st 15 x1) 13 (gI st 10)) 14 (gI st 11)) 16 (5000 : Int32))
set_option maxHeartbeats 4000000 in
set_option maxRecDepth 100000 in
theorem k_cDisk_beginCopy {p : Program} {l : Launch} {e : Env} {s : State} {m : MethodId} {args : Array Value} {below : List Frame} {meth : Method} {c : Code} {A : Nat → Prop} (g : Gm) (C : cX p s m args meth c A cX2_beginCopy none 2 RX2 wq_X2_beginCopy (gD g) vwCl (cty g) (cz g)) (st : CS) (x1 : Int32) (H : Heap) (locs : List Loc) (ls : Array Slot) (hI : cI (gD g) vwCl (cw g) A s st H locs) (hl : lv_has ls 2 [(0, .ref (gad g 10)), (1, .int x1)]) (hb : x1 = (0 : Int32) ∨ x1 = (1 : Int32)) (X : CS) (hF : X = cDisk_beginCopy st x1) : W p l e rm_cDisk_beginCopy s m args below meth c H locs 0 0 (MQ below (cQv (gD g) vwCl (cty g) (cw g) A X) args s 0 0 A) (F0 m 0 ls []) := by
  obtain ⟨hx, hb, hr, hml, hown, hts, hlocks, hK, hA, hZ, hzo⟩ := id C
  unfold cDisk_beginCopy at hF
  refine lv_aload_n hx hb dX2_beginCopy_0 rfl (lv_at hl 0 rfl) ?_
  refine lv_iload_n hx hb dX2_beginCopy_1 rfl (lv_at hl 1 rfl) ?_
  refine va_put (D := gD g) (ci := 2) (C := RX2) (T := TX2) (N := 11) (v := .int x1) (ty := .boolean) hx hb hts (fun w h => List.mem_cons_of_mem _ (isX20 w h)) tyX2 tyX2_ok nmX2 hown hK hI.1 hI.2.1 hI.2.2 10 rfl rfl 8 (by decide) (hts _ (List.mem_cons_of_mem _ mw637)) (fun _ h9 => h9) rfl (by decide +kernel) (nar_b (by assumption)) (fit_b (by assumption)) (Nat.le_of_ble_eq_true rfl) dX2_beginCopy_2 (fun H locs hP hD hS => ?_)
  have hI : cI (gD g) vwCl (cw g) A s (sI st 15 x1) H locs := ⟨hP, hD, hS⟩
  refine lv_aload_n hx hb dX2_beginCopy_5 rfl (lv_at hl 0 rfl) ?_
  refine lv_aload_n hx hb dX2_beginCopy_6 rfl (lv_at hl 0 rfl) ?_
  refine va_get (D := gD g) (ci := 2) (C := RX2) (T := TX2) (N := 11) (v := .int (gI st 10)) hx hb hts (fun w h => List.mem_cons_of_mem _ (isX20 w h)) hown hK hI.1 10 rfl rfl 3 (by decide) (hts _ (List.mem_cons_of_mem _ mw154)) (fun _ h9 => h9) rfl dX2_beginCopy_7 ?_
  refine va_put (D := gD g) (ci := 2) (C := RX2) (T := TX2) (N := 11) (v := .int (gI st 10)) (ty := .int) hx hb hts (fun w h => List.mem_cons_of_mem _ (isX20 w h)) tyX2 tyX2_ok nmX2 hown hK hI.1 hI.2.1 hI.2.2 10 rfl rfl 6 (by decide) (hts _ (List.mem_cons_of_mem _ mw638)) (fun _ h9 => h9) rfl (by decide +kernel) rfl rfl (Nat.le_of_ble_eq_true rfl) dX2_beginCopy_10 (fun H locs hP hD hS => ?_)
  have hI : cI (gD g) vwCl (cw g) A s (sI (sI st 15 x1) 13 (gI st 10)) H locs := ⟨hP, hD, hS⟩
  refine lv_aload_n hx hb dX2_beginCopy_13 rfl (lv_at hl 0 rfl) ?_
  refine lv_aload_n hx hb dX2_beginCopy_14 rfl (lv_at hl 0 rfl) ?_
  refine va_get (D := gD g) (ci := 2) (C := RX2) (T := TX2) (N := 11) (v := .int (gI st 11)) hx hb hts (fun w h => List.mem_cons_of_mem _ (isX20 w h)) hown hK hI.1 10 rfl rfl 4 (by decide) (hts _ (List.mem_cons_of_mem _ mw155)) (fun _ h9 => h9) rfl dX2_beginCopy_15 ?_
  refine va_put (D := gD g) (ci := 2) (C := RX2) (T := TX2) (N := 11) (v := .int (gI st 11)) (ty := .int) hx hb hts (fun w h => List.mem_cons_of_mem _ (isX20 w h)) tyX2 tyX2_ok nmX2 hown hK hI.1 hI.2.1 hI.2.2 10 rfl rfl 7 (by decide) (hts _ (List.mem_cons_of_mem _ mw639)) (fun _ h9 => h9) rfl (by decide +kernel) rfl rfl (Nat.le_of_ble_eq_true rfl) dX2_beginCopy_18 (fun H locs hP hD hS => ?_)
  have hI : cI (gD g) vwCl (cw g) A s (sI (sI (sI st 15 x1) 13 (gI st 10)) 14 (gI st 11)) H locs := ⟨hP, hD, hS⟩
  refine lv_aload_n hx hb dX2_beginCopy_21 rfl (lv_at hl 0 rfl) ?_
  refine lv_sipush (v := (5000 : Int32)) hx hb dX2_beginCopy_22 (by decide) ?_
  refine va_put (D := gD g) (ci := 2) (C := RX2) (T := TX2) (N := 11) (v := .int (5000 : Int32)) (ty := .int) hx hb hts (fun w h => List.mem_cons_of_mem _ (isX20 w h)) tyX2 tyX2_ok nmX2 hown hK hI.1 hI.2.1 hI.2.2 10 rfl rfl 9 (by decide) (hts _ (List.mem_cons_of_mem _ mw157)) (fun _ h9 => h9) rfl (by decide +kernel) rfl rfl (Nat.le_of_ble_eq_true rfl) dX2_beginCopy_25 (fun H locs hP hD hS => ?_)
  have hI : cI (gD g) vwCl (cw g) A s (sI (sI (sI (sI st 15 x1) 13 (gI st 10)) 14 (gI st 11)) 16 (5000 : Int32)) H locs := ⟨hP, hD, hS⟩
  exact cx_vret C hI hF dX2_beginCopy_28
set_option maxHeartbeats 4000000 in
set_option maxRecDepth 100000 in
theorem c_cDisk_beginCopy (l : Launch) (g : Gm) (st : CS) (x1 : Int32) (hb : x1 = (0 : Int32) ∨ x1 = (1 : Int32)) : Mv l yX2_beginCopy wq_X2_beginCopy rm_cDisk_beginCopy (gD g) vwCl (cty g) (cw g) (cz g) [.ref (gad g 10), .int x1] st (cDisk_beginCopy st x1) := by
  intro sz
  refine Met.ofW (cc := cX2_beginCopy) (maxL := 2) (ret := none) (by decide) rfl ?_
  intro p e s m args below meth c s₁ B hml hv
  obtain ⟨rfl, hsz, hP, hK, hD0, hZ⟩ := hv
  subst hsz
  have hl := lv_entry ([.ref (gad g 10), .int x1]) (n := 2) (Nat.le_of_ble_eq_true rfl)
  rw [lg_entry_eq]
  generalize (lg_sl ([.ref (gad g 10), .int x1]) ++ List.replicate (2 - (lg_sl ([.ref (gad g 10), .int x1])).length) Slot.unset).toArray = ls at hl ⊢
  exact k_cDisk_beginCopy g ⟨B.exec, B.bytes, B.returns, hml, findClass_of_methodNamed B.named, atoms_spec (ws := wq_X2_beginCopy) B.pre, B.notSynchronized, hK, fun q h => Or.inr h, hZ, cz_ok g⟩ st x1 _ _ ls ⟨hP, hD0.self, va_S.rf⟩ hl hb _ rfl
abbrev wq_X2_write : List Cond := .code yX2_write cX2_write 3 none :: wAll
theorem yd_yX2_write : yX2_write.cls = RX2 ∧ yX2_write.cls ≠ "java/lang/invoke/MethodHandle" ∧ yX2_write.cls ≠ "java/lang/invoke/VarHandle" ∧ (parseMethodDescriptor yX2_write.desc).map (fun d => d.parameters.length) = some 2 := by decide +kernel
abbrev rm_cDisk_write : Room := { frames := 1, cells := 0, slots := 0, locals := 21 }
def cDisk_write_b102 (st : CS) (y0 : Int32) : CS := (cDisk_beginCopy st y0)
set_option maxHeartbeats 4000000 in
set_option maxRecDepth 100000 in
theorem k_cDisk_write_b102 {p : Program} {l : Launch} {e : Env} {s : State} {m : MethodId} {args : Array Value} {below : List Frame} {meth : Method} {c : Code} {A : Nat → Prop} (g : Gm) (C : cX p s m args meth c A cX2_write none 3 RX2 wq_X2_write (gD g) vwCl (cty g) (cz g)) (st : CS) (y0 : Int32) (H : Heap) (locs : List Loc) (ls : Array Slot) (hI : cI (gD g) vwCl (cw g) A s st H locs) (hl : lv_has ls 3 [(0, .ref (gad g 10))]) (hb_y0 : y0 = (0 : Int32) ∨ y0 = (1 : Int32)) (X : CS) (hF : X = cDisk_write_b102 st y0) : W p l e rm_cDisk_write s m args below meth c H locs 0 0 (MQ below (cQv (gD g) vwCl (cty g) (cw g) A X) args s 0 0 A) (F0 m 102 ls [.int y0, .ref (gad g 10)]) := by
  obtain ⟨hx, hb, hr, hml, hown, hts, hlocks, hK, hA, hZ, hzo⟩ := id C
  unfold cDisk_write_b102 at hF
  refine cx_Vv (As := [.int y0]) (rest := []) C (c_cDisk_beginCopy l g st y0 hb_y0) (cwV 1 hts (gd_V _ mw633 mw634 mw635 mw30 mw636) rfl rfl rfl yd_yX2_beginCopy ⟨Nat.le_of_ble_eq_true rfl, Nat.le_of_ble_eq_true rfl⟩) (va_recv hK hI.1 (ci := 2) (q0 := 10) rfl rfl) hI rfl hl.1 rfl (Nat.le_of_ble_eq_true rfl) dX2_write_102 (fun H locs hI => ?_)
  exact cx_vret C hI hF dX2_write_105
def cDisk_write_b88 (st : CS) : CS := st
set_option maxHeartbeats 4000000 in
set_option maxRecDepth 100000 in
theorem k_cDisk_write_b88 {p : Program} {l : Launch} {e : Env} {s : State} {m : MethodId} {args : Array Value} {below : List Frame} {meth : Method} {c : Code} {A : Nat → Prop} (g : Gm) (C : cX p s m args meth c A cX2_write none 3 RX2 wq_X2_write (gD g) vwCl (cty g) (cz g)) (st : CS) (H : Heap) (locs : List Loc) (ls : Array Slot) (hI : cI (gD g) vwCl (cw g) A s st H locs) (hl : lv_has ls 3 [(0, .ref (gad g 10))]) (X : CS) (hF : X = cDisk_write_b88 st ) : W p l e rm_cDisk_write s m args below meth c H locs 0 0 (MQ below (cQv (gD g) vwCl (cty g) (cw g) A X) args s 0 0 A) (F0 m 88 ls []) := by
  obtain ⟨hx, hb, hr, hml, hown, hts, hlocks, hK, hA, hZ, hzo⟩ := id C
  unfold cDisk_write_b88 at hF
  refine lv_goto (tgt := 105) hx hb dX2_write_88 (by decide) ?_
  exact cx_vret C hI hF dX2_write_105
def cDisk_write_b71 (st : CS) (x2 : Int32) (y0 : Int32) : CS := (if (y0 = 0) then (if (x2 = (1 : Int32)) then (cDisk_write_b102 (sI st 12 y0) (1 : Int32)) else (cDisk_write_b102 (sI st 12 y0) (0 : Int32))) else (cDisk_write_b88 (cLines_diskIsReady (sI st 12 y0)) ))
set_option maxHeartbeats 4000000 in
set_option maxRecDepth 100000 in
theorem k_cDisk_write_b71 {p : Program} {l : Launch} {e : Env} {s : State} {m : MethodId} {args : Array Value} {below : List Frame} {meth : Method} {c : Code} {A : Nat → Prop} (g : Gm) (C : cX p s m args meth c A cX2_write none 3 RX2 wq_X2_write (gD g) vwCl (cty g) (cz g)) (st : CS) (x2 : Int32) (y0 : Int32) (H : Heap) (locs : List Loc) (ls : Array Slot) (hI : cI (gD g) vwCl (cw g) A s st H locs) (hl : lv_has ls 3 [(0, .ref (gad g 10)), (2, .int x2)]) (hb_y0 : y0 = (0 : Int32) ∨ y0 = (1 : Int32)) (X : CS) (hF : X = cDisk_write_b71 st x2 y0) : W p l e rm_cDisk_write s m args below meth c H locs 0 0 (MQ below (cQv (gD g) vwCl (cty g) (cw g) A X) args s 0 0 A) (F0 m 71 ls [.int y0, .ref (gad g 10)]) := by
  obtain ⟨hx, hb, hr, hml, hown, hts, hlocks, hK, hA, hZ, hzo⟩ := id C
  unfold cDisk_write_b71 at hF
  refine va_put (D := gD g) (ci := 2) (C := RX2) (T := TX2) (N := 11) (v := .int y0) (ty := .boolean) hx hb hts (fun w h => List.mem_cons_of_mem _ (isX20 w h)) tyX2 tyX2_ok nmX2 hown hK hI.1 hI.2.1 hI.2.2 10 rfl rfl 5 (by decide) (hts _ (List.mem_cons_of_mem _ mw156)) (fun _ h9 => h9) rfl (by decide +kernel) (nar_b hb_y0) (fit_b hb_y0) (Nat.le_of_ble_eq_true rfl) dX2_write_71 (fun H locs hP hD hS => ?_)
  have hI : cI (gD g) vwCl (cw g) A s (sI st 12 y0) H locs := ⟨hP, hD, hS⟩
  refine lv_aload_n hx hb dX2_write_74 rfl (lv_at hl 0 rfl) ?_
  refine va_get (D := gD g) (ci := 2) (C := RX2) (T := TX2) (N := 11) (v := .int y0) hx hb hts (fun w h => List.mem_cons_of_mem _ (isX20 w h)) hown hK hI.1 10 rfl rfl 5 (by decide) (hts _ (List.mem_cons_of_mem _ mw156)) (fun _ h9 => h9) rfl dX2_write_75 ?_
  refine lv_if_eq (tgt := 91) hx hb dX2_write_78 (by decide) (fun c_78 => ?_) (fun c_78 => ?_)
  · have hF := hF.trans (if_pos c_78)
    refine lv_aload_n hx hb dX2_write_91 rfl (lv_at hl 0 rfl) ?_
    refine lv_iload_n hx hb dX2_write_92 rfl (lv_at hl 1 rfl) ?_
    refine lv_iconst (v := (1 : Int32)) hx hb dX2_write_93 (by decide) ?_
    refine lv_icmp_ne (tgt := 101) hx hb dX2_write_94 (by decide) (fun c_94 => ?_) (fun c_94 => ?_)
    · have hF := hF.trans (if_neg c_94)
      refine lv_iconst (v := (0 : Int32)) hx hb dX2_write_101 (by decide) ?_
      exact k_cDisk_write_b102 g C (sI st 12 y0) (0 : Int32) H locs ls hI (lv_sub hl [0] rfl) (Or.inl rfl) X hF
    · have hF := hF.trans (if_pos c_94)
      refine lv_iconst (v := (1 : Int32)) hx hb dX2_write_97 (by decide) ?_
      refine lv_goto (tgt := 102) hx hb dX2_write_98 (by decide) ?_
      exact k_cDisk_write_b102 g C (sI st 12 y0) (1 : Int32) H locs ls hI (lv_sub hl [0] rfl) (Or.inr rfl) X hF
  · have hF := hF.trans (if_neg c_78)
    refine lv_aload_n hx hb dX2_write_81 rfl (lv_at hl 0 rfl) ?_
    refine va_get (D := gD g) (ci := 2) (C := RX2) (T := TX2) (N := 11) (v := .ref (gad g 7)) hx hb hts (fun w h => List.mem_cons_of_mem _ (isX20 w h)) hown hK hI.1 10 rfl rfl 1 (by decide) (hts _ (List.mem_cons_of_mem _ mw74)) (fun _ h9 => h9) rfl dX2_write_82 ?_
    refine cx_Vv (As := []) (rest := []) C (c_cLines_diskIsReady l g (sI st 12 y0) ) (cwV 0 hts (gd_V _ mw629 mw630 mw631 mw22 mw632) rfl rfl rfl yd_yX4_diskIsReady ⟨Nat.le_of_ble_eq_true rfl, Nat.le_of_ble_eq_true rfl⟩) (va_recv hK hI.1 (ci := 4) (q0 := 7) rfl rfl) hI rfl hl.1 rfl (Nat.le_of_ble_eq_true rfl) dX2_write_85 (fun H locs hI => ?_)
    exact k_cDisk_write_b88 g C (cLines_diskIsReady (sI st 12 y0))  H locs ls hI (lv_sub hl [0] rfl) X hF
def cDisk_write_b66 (st : CS) (x2 : Int32) : CS := (cDisk_write_b71 st x2 (1 : Int32))
set_option maxHeartbeats 4000000 in
set_option maxRecDepth 100000 in
theorem k_cDisk_write_b66 {p : Program} {l : Launch} {e : Env} {s : State} {m : MethodId} {args : Array Value} {below : List Frame} {meth : Method} {c : Code} {A : Nat → Prop} (g : Gm) (C : cX p s m args meth c A cX2_write none 3 RX2 wq_X2_write (gD g) vwCl (cty g) (cz g)) (st : CS) (x2 : Int32) (H : Heap) (locs : List Loc) (ls : Array Slot) (hI : cI (gD g) vwCl (cw g) A s st H locs) (hl : lv_has ls 3 [(0, .ref (gad g 10)), (2, .int x2)]) (X : CS) (hF : X = cDisk_write_b66 st x2) : W p l e rm_cDisk_write s m args below meth c H locs 0 0 (MQ below (cQv (gD g) vwCl (cty g) (cw g) A X) args s 0 0 A) (F0 m 66 ls [.ref (gad g 10)]) := by
  obtain ⟨hx, hb, hr, hml, hown, hts, hlocks, hK, hA, hZ, hzo⟩ := id C
  unfold cDisk_write_b66 at hF
  refine lv_iconst (v := (1 : Int32)) hx hb dX2_write_66 (by decide) ?_
  refine lv_goto (tgt := 71) hx hb dX2_write_67 (by decide) ?_
  exact k_cDisk_write_b71 g C st x2 (1 : Int32) H locs ls hI (lv_sub hl [0, 1] rfl) (Or.inr rfl) X hF
def cDisk_write_b48 (st : CS) (x2 : Int32) : CS := (if ((16 : Int32) ≤ (gI st 10)) then (cDisk_write_b66 st x2) else (if ((gI st 11) < (16 : Int32)) then (cDisk_write_b71 st x2 (0 : Int32)) else (cDisk_write_b66 st x2)))
set_option maxHeartbeats 4000000 in
set_option maxRecDepth 100000 in
theorem k_cDisk_write_b48 {p : Program} {l : Launch} {e : Env} {s : State} {m : MethodId} {args : Array Value} {below : List Frame} {meth : Method} {c : Code} {A : Nat → Prop} (g : Gm) (C : cX p s m args meth c A cX2_write none 3 RX2 wq_X2_write (gD g) vwCl (cty g) (cz g)) (st : CS) (x2 : Int32) (H : Heap) (locs : List Loc) (ls : Array Slot) (hI : cI (gD g) vwCl (cw g) A s st H locs) (hl : lv_has ls 3 [(0, .ref (gad g 10)), (2, .int x2)]) (X : CS) (hF : X = cDisk_write_b48 st x2) : W p l e rm_cDisk_write s m args below meth c H locs 0 0 (MQ below (cQv (gD g) vwCl (cty g) (cw g) A X) args s 0 0 A) (F0 m 48 ls [.ref (gad g 10)]) := by
  obtain ⟨hx, hb, hr, hml, hown, hts, hlocks, hK, hA, hZ, hzo⟩ := id C
  unfold cDisk_write_b48 at hF
  refine lv_aload_n hx hb dX2_write_48 rfl (lv_at hl 0 rfl) ?_
  refine va_get (D := gD g) (ci := 2) (C := RX2) (T := TX2) (N := 11) (v := .int (gI st 10)) hx hb hts (fun w h => List.mem_cons_of_mem _ (isX20 w h)) hown hK hI.1 10 rfl rfl 3 (by decide) (hts _ (List.mem_cons_of_mem _ mw154)) (fun _ h9 => h9) rfl dX2_write_49 ?_
  refine lv_bipush (v := (16 : Int32)) hx hb dX2_write_52 (by decide) ?_
  refine lv_icmp_ge (tgt := 66) hx hb dX2_write_54 (by decide) (fun c_54 => ?_) (fun c_54 => ?_)
  · have hF := hF.trans (if_pos c_54)
    exact k_cDisk_write_b66 g C st x2 H locs ls hI (lv_sub hl [0, 1] rfl) X hF
  · have hF := hF.trans (if_neg c_54)
    refine lv_aload_n hx hb dX2_write_57 rfl (lv_at hl 0 rfl) ?_
    refine va_get (D := gD g) (ci := 2) (C := RX2) (T := TX2) (N := 11) (v := .int (gI st 11)) hx hb hts (fun w h => List.mem_cons_of_mem _ (isX20 w h)) hown hK hI.1 10 rfl rfl 4 (by decide) (hts _ (List.mem_cons_of_mem _ mw155)) (fun _ h9 => h9) rfl dX2_write_58 ?_
    refine lv_bipush (v := (16 : Int32)) hx hb dX2_write_61 (by decide) ?_
    refine lv_icmp_lt (tgt := 70) hx hb dX2_write_63 (by decide) (fun c_63 => ?_) (fun c_63 => ?_)
    · have hF := hF.trans (if_pos c_63)
      refine lv_iconst (v := (0 : Int32)) hx hb dX2_write_70 (by decide) ?_
      exact k_cDisk_write_b71 g C st x2 (0 : Int32) H locs ls hI (lv_sub hl [0, 1] rfl) (Or.inl rfl) X hF
    · have hF := hF.trans (if_neg c_63)
      exact k_cDisk_write_b66 g C st x2 H locs ls hI (lv_sub hl [0, 1] rfl) X hF
def cDisk_write (st : CS) (x1 : Int32) (x2 : Int32) : CS := (if (x1 = 0) then (sI st 10 x2) else (if (x1 = (1 : Int32)) then (sI st 11 x2) else (if (x1 = (2 : Int32)) then (if ((gI st 16) = 0) then (if (x2 = (1 : Int32)) then (cDisk_write_b48 st x2) else (if (x2 = (2 : Int32)) then (cDisk_write_b48 st x2) else (cDisk_write_b66 st x2))) else st) else st)))
set_option maxHeartbeats 4000000 in
set_option maxRecDepth 100000 in
theorem k_cDisk_write {p : Program} {l : Launch} {e : Env} {s : State} {m : MethodId} {args : Array Value} {below : List Frame} {meth : Method} {c : Code} {A : Nat → Prop} (g : Gm) (C : cX p s m args meth c A cX2_write none 3 RX2 wq_X2_write (gD g) vwCl (cty g) (cz g)) (st : CS) (x1 : Int32) (x2 : Int32) (H : Heap) (locs : List Loc) (ls : Array Slot) (hI : cI (gD g) vwCl (cw g) A s st H locs) (hl : lv_has ls 3 [(0, .ref (gad g 10)), (1, .int x1), (2, .int x2)]) (X : CS) (hF : X = cDisk_write st x1 x2) : W p l e rm_cDisk_write s m args below meth c H locs 0 0 (MQ below (cQv (gD g) vwCl (cty g) (cw g) A X) args s 0 0 A) (F0 m 0 ls []) := by
  obtain ⟨hx, hb, hr, hml, hown, hts, hlocks, hK, hA, hZ, hzo⟩ := id C
  unfold cDisk_write at hF
  refine lv_iload_n hx hb dX2_write_0 rfl (lv_at hl 1 rfl) ?_
  refine lv_if_ne (tgt := 12) hx hb dX2_write_1 (by decide) (fun c_1 => ?_) (fun c_1 => ?_)
  · have hF := hF.trans (if_neg c_1)
    refine lv_iload_n hx hb dX2_write_12 rfl (lv_at hl 1 rfl) ?_
    refine lv_iconst (v := (1 : Int32)) hx hb dX2_write_13 (by decide) ?_
    refine lv_icmp_ne (tgt := 25) hx hb dX2_write_14 (by decide) (fun c_14 => ?_) (fun c_14 => ?_)
    · have hF := hF.trans (if_neg c_14)
      refine lv_iload_n hx hb dX2_write_25 rfl (lv_at hl 1 rfl) ?_
      refine lv_iconst (v := (2 : Int32)) hx hb dX2_write_26 (by decide) ?_
      refine lv_icmp_ne (tgt := 105) hx hb dX2_write_27 (by decide) (fun c_27 => ?_) (fun c_27 => ?_)
      · have hF := hF.trans (if_neg c_27)
        exact cx_vret C hI hF dX2_write_105
      · have hF := hF.trans (if_pos c_27)
        refine lv_aload_n hx hb dX2_write_30 rfl (lv_at hl 0 rfl) ?_
        refine va_get (D := gD g) (ci := 2) (C := RX2) (T := TX2) (N := 11) (v := .int (gI st 16)) hx hb hts (fun w h => List.mem_cons_of_mem _ (isX20 w h)) hown hK hI.1 10 rfl rfl 9 (by decide) (hts _ (List.mem_cons_of_mem _ mw157)) (fun _ h9 => h9) rfl dX2_write_31 ?_
        refine lv_if_ne (tgt := 105) hx hb dX2_write_34 (by decide) (fun c_34 => ?_) (fun c_34 => ?_)
        · have hF := hF.trans (if_neg c_34)
          exact cx_vret C hI hF dX2_write_105
        · have hF := hF.trans (if_pos c_34)
          refine lv_aload_n hx hb dX2_write_37 rfl (lv_at hl 0 rfl) ?_
          refine lv_iload_n hx hb dX2_write_38 rfl (lv_at hl 2 rfl) ?_
          refine lv_iconst (v := (1 : Int32)) hx hb dX2_write_39 (by decide) ?_
          refine lv_icmp_eq (tgt := 48) hx hb dX2_write_40 (by decide) (fun c_40 => ?_) (fun c_40 => ?_)
          · have hF := hF.trans (if_pos c_40)
            exact k_cDisk_write_b48 g C st x2 H locs ls hI (lv_sub hl [0, 2] rfl) X hF
          · have hF := hF.trans (if_neg c_40)
            refine lv_iload_n hx hb dX2_write_43 rfl (lv_at hl 2 rfl) ?_
            refine lv_iconst (v := (2 : Int32)) hx hb dX2_write_44 (by decide) ?_
            refine lv_icmp_ne (tgt := 66) hx hb dX2_write_45 (by decide) (fun c_45 => ?_) (fun c_45 => ?_)
            · have hF := hF.trans (if_neg c_45)
              exact k_cDisk_write_b66 g C st x2 H locs ls hI (lv_sub hl [0, 2] rfl) X hF
            · have hF := hF.trans (if_pos c_45)
              exact k_cDisk_write_b48 g C st x2 H locs ls hI (lv_sub hl [0, 2] rfl) X hF
    · have hF := hF.trans (if_pos c_14)
      refine lv_aload_n hx hb dX2_write_17 rfl (lv_at hl 0 rfl) ?_
      refine lv_iload_n hx hb dX2_write_18 rfl (lv_at hl 2 rfl) ?_
      refine va_put (D := gD g) (ci := 2) (C := RX2) (T := TX2) (N := 11) (v := .int x2) (ty := .int) hx hb hts (fun w h => List.mem_cons_of_mem _ (isX20 w h)) tyX2 tyX2_ok nmX2 hown hK hI.1 hI.2.1 hI.2.2 10 rfl rfl 4 (by decide) (hts _ (List.mem_cons_of_mem _ mw155)) (fun _ h9 => h9) rfl (by decide +kernel) rfl rfl (Nat.le_of_ble_eq_true rfl) dX2_write_19 (fun H locs hP hD hS => ?_)
      have hI : cI (gD g) vwCl (cw g) A s (sI st 11 x2) H locs := ⟨hP, hD, hS⟩
      refine lv_goto (tgt := 105) hx hb dX2_write_22 (by decide) ?_
      exact cx_vret C hI hF dX2_write_105
  · have hF := hF.trans (if_pos c_1)
    refine lv_aload_n hx hb dX2_write_4 rfl (lv_at hl 0 rfl) ?_
    refine lv_iload_n hx hb dX2_write_5 rfl (lv_at hl 2 rfl) ?_
    refine va_put (D := gD g) (ci := 2) (C := RX2) (T := TX2) (N := 11) (v := .int x2) (ty := .int) hx hb hts (fun w h => List.mem_cons_of_mem _ (isX20 w h)) tyX2 tyX2_ok nmX2 hown hK hI.1 hI.2.1 hI.2.2 10 rfl rfl 3 (by decide) (hts _ (List.mem_cons_of_mem _ mw154)) (fun _ h9 => h9) rfl (by decide +kernel) rfl rfl (Nat.le_of_ble_eq_true rfl) dX2_write_6 (fun H locs hP hD hS => ?_)
    have hI : cI (gD g) vwCl (cw g) A s (sI st 10 x2) H locs := ⟨hP, hD, hS⟩
    refine lv_goto (tgt := 105) hx hb dX2_write_9 (by decide) ?_
    exact cx_vret C hI hF dX2_write_105
set_option maxHeartbeats 4000000 in
set_option maxRecDepth 100000 in
theorem c_cDisk_write (l : Launch) (g : Gm) (st : CS) (x1 : Int32) (x2 : Int32) : Mv l yX2_write wq_X2_write rm_cDisk_write (gD g) vwCl (cty g) (cw g) (cz g) [.ref (gad g 10), .int x1, .int x2] st (cDisk_write st x1 x2) := by
  intro sz
  refine Met.ofW (cc := cX2_write) (maxL := 3) (ret := none) (by decide) rfl ?_
  intro p e s m args below meth c s₁ B hml hv
  obtain ⟨rfl, hsz, hP, hK, hD0, hZ⟩ := hv
  subst hsz
  have hl := lv_entry ([.ref (gad g 10), .int x1, .int x2]) (n := 3) (Nat.le_of_ble_eq_true rfl)
  rw [lg_entry_eq]
  generalize (lg_sl ([.ref (gad g 10), .int x1, .int x2]) ++ List.replicate (3 - (lg_sl ([.ref (gad g 10), .int x1, .int x2])).length) Slot.unset).toArray = ls at hl ⊢
  exact k_cDisk_write g ⟨B.exec, B.bytes, B.returns, hml, findClass_of_methodNamed B.named, atoms_spec (ws := wq_X2_write) B.pre, B.notSynchronized, hK, fun q h => Or.inr h, hZ, cz_ok g⟩ st x1 x2 _ _ ls ⟨hP, hD0.self, va_S.rf⟩ hl _ rfl
abbrev wq_X2_isRead : List Cond := .code yX2_isRead cX2_isRead 2 none :: wAll
theorem yd_yX2_isRead : yX2_isRead.cls = RX2 ∧ yX2_isRead.cls ≠ "java/lang/invoke/MethodHandle" ∧ yX2_isRead.cls ≠ "java/lang/invoke/VarHandle" ∧ (parseMethodDescriptor yX2_isRead.desc).map (fun d => d.parameters.length) = some 1 := by decide +kernel
abbrev rm_cDisk_isRead : Room := { frames := 1, cells := 0, slots := 0, locals := 20 }
def cDisk_isRead (st : CS) (x1 : Int32) : CS := (if (x1 = (2 : Int32)) then (cLines_diskIsSeen st) else st)
set_option maxHeartbeats 4000000 in
set_option maxRecDepth 100000 in
theorem k_cDisk_isRead {p : Program} {l : Launch} {e : Env} {s : State} {m : MethodId} {args : Array Value} {below : List Frame} {meth : Method} {c : Code} {A : Nat → Prop} (g : Gm) (C : cX p s m args meth c A cX2_isRead none 2 RX2 wq_X2_isRead (gD g) vwCl (cty g) (cz g)) (st : CS) (x1 : Int32) (H : Heap) (locs : List Loc) (ls : Array Slot) (hI : cI (gD g) vwCl (cw g) A s st H locs) (hl : lv_has ls 2 [(0, .ref (gad g 10)), (1, .int x1)]) (X : CS) (hF : X = cDisk_isRead st x1) : W p l e rm_cDisk_isRead s m args below meth c H locs 0 0 (MQ below (cQv (gD g) vwCl (cty g) (cw g) A X) args s 0 0 A) (F0 m 0 ls []) := by
  obtain ⟨hx, hb, hr, hml, hown, hts, hlocks, hK, hA, hZ, hzo⟩ := id C
  unfold cDisk_isRead at hF
  refine lv_iload_n hx hb dX2_isRead_0 rfl (lv_at hl 1 rfl) ?_
  refine lv_iconst (v := (2 : Int32)) hx hb dX2_isRead_1 (by decide) ?_
  refine lv_icmp_ne (tgt := 12) hx hb dX2_isRead_2 (by decide) (fun c_2 => ?_) (fun c_2 => ?_)
  · have hF := hF.trans (if_neg c_2)
    exact cx_vret C hI hF dX2_isRead_12
  · have hF := hF.trans (if_pos c_2)
    refine lv_aload_n hx hb dX2_isRead_5 rfl (lv_at hl 0 rfl) ?_
    refine va_get (D := gD g) (ci := 2) (C := RX2) (T := TX2) (N := 11) (v := .ref (gad g 7)) hx hb hts (fun w h => List.mem_cons_of_mem _ (isX20 w h)) hown hK hI.1 10 rfl rfl 1 (by decide) (hts _ (List.mem_cons_of_mem _ mw74)) (fun _ h9 => h9) rfl dX2_isRead_6 ?_
    refine cx_Vv (As := []) (rest := []) C (c_cLines_diskIsSeen l g st ) (cwV 0 hts (gd_V _ mw575 mw576 mw577 mw22 mw578) rfl rfl rfl yd_yX4_diskIsSeen ⟨Nat.le_of_ble_eq_true rfl, Nat.le_of_ble_eq_true rfl⟩) (va_recv hK hI.1 (ci := 4) (q0 := 7) rfl rfl) hI rfl hl.1 rfl (Nat.le_of_ble_eq_true rfl) dX2_isRead_9 (fun H locs hI => ?_)
    exact cx_vret C hI hF dX2_isRead_12
set_option maxHeartbeats 4000000 in
set_option maxRecDepth 100000 in
theorem c_cDisk_isRead (l : Launch) (g : Gm) (st : CS) (x1 : Int32) : Mv l yX2_isRead wq_X2_isRead rm_cDisk_isRead (gD g) vwCl (cty g) (cw g) (cz g) [.ref (gad g 10), .int x1] st (cDisk_isRead st x1) := by
  intro sz
  refine Met.ofW (cc := cX2_isRead) (maxL := 2) (ret := none) (by decide) rfl ?_
  intro p e s m args below meth c s₁ B hml hv
  obtain ⟨rfl, hsz, hP, hK, hD0, hZ⟩ := hv
  subst hsz
  have hl := lv_entry ([.ref (gad g 10), .int x1]) (n := 2) (Nat.le_of_ble_eq_true rfl)
  rw [lg_entry_eq]
  generalize (lg_sl ([.ref (gad g 10), .int x1]) ++ List.replicate (2 - (lg_sl ([.ref (gad g 10), .int x1])).length) Slot.unset).toArray = ls at hl ⊢
  exact k_cDisk_isRead g ⟨B.exec, B.bytes, B.returns, hml, findClass_of_methodNamed B.named, atoms_spec (ws := wq_X2_isRead) B.pre, B.notSynchronized, hK, fun q h => Or.inr h, hZ, cz_ok g⟩ st x1 _ _ ls ⟨hP, hD0.self, va_S.rf⟩ hl _ rfl
abbrev wq_X2_copy : List Cond := .code yX2_copy cX2_copy 3 none :: wAll
theorem yd_yX2_copy : yX2_copy.cls = RX2 ∧ yX2_copy.cls ≠ "java/lang/invoke/MethodHandle" ∧ yX2_copy.cls ≠ "java/lang/invoke/VarHandle" ∧ (parseMethodDescriptor yX2_copy.desc).map (fun d => d.parameters.length) = some 0 := by decide +kernel
abbrev rm_cDisk_copy : Room := { frames := 1, cells := 0, slots := 0, locals := 40 }
def cDisk_copy_b66 (st : CS) : CS := (sL st 3 ((gL st 3) + (1024 : Int64)))
set_option maxHeartbeats 4000000 in
set_option maxRecDepth 100000 in
theorem k_cDisk_copy_b66 {p : Program} {l : Launch} {e : Env} {s : State} {m : MethodId} {args : Array Value} {below : List Frame} {meth : Method} {c : Code} {A : Nat → Prop} (g : Gm) (C : cX p s m args meth c A cX2_copy none 3 RX2 wq_X2_copy (gD g) vwCl (cty g) (cz g)) (st : CS) (H : Heap) (locs : List Loc) (ls : Array Slot) (hI : cI (gD g) vwCl (cw g) A s st H locs) (hl : lv_has ls 3 [(0, .ref (gad g 10))]) (X : CS) (hF : X = cDisk_copy_b66 st ) : W p l e rm_cDisk_copy s m args below meth c H locs 0 0 (MQ below (cQv (gD g) vwCl (cty g) (cw g) A X) args s 0 0 A) (F0 m 66 ls []) := by
  obtain ⟨hx, hb, hr, hml, hown, hts, hlocks, hK, hA, hZ, hzo⟩ := id C
  unfold cDisk_copy_b66 at hF
  refine lv_aload_n hx hb dX2_copy_66 rfl (lv_at hl 0 rfl) ?_
  refine lv_dup hx hb dX2_copy_67 rfl ?_
  refine va_get (D := gD g) (ci := 2) (C := RX2) (T := TX2) (N := 11) (v := .long (gL st 3)) hx hb hts (fun w h => List.mem_cons_of_mem _ (isX20 w h)) hown hK hI.1 10 rfl rfl 10 (by decide) (hts _ (List.mem_cons_of_mem _ mw710)) (fun _ h9 => h9) rfl dX2_copy_68 ?_
  refine lv_ldc2 (v := (1024 : Int64)) hx hb hown (hts _ (List.mem_cons_of_mem _ mw711)) dX2_copy_71 ?_
  refine lv_ladd hx hb dX2_copy_74 ?_
  refine va_put (D := gD g) (ci := 2) (C := RX2) (T := TX2) (N := 11) (v := .long ((gL st 3) + (1024 : Int64))) (ty := .long) hx hb hts (fun w h => List.mem_cons_of_mem _ (isX20 w h)) tyX2 tyX2_ok nmX2 hown hK hI.1 hI.2.1 hI.2.2 10 rfl rfl 10 (by decide) (hts _ (List.mem_cons_of_mem _ mw710)) (fun _ h9 => h9) rfl (by decide +kernel) rfl rfl (Nat.le_of_ble_eq_true rfl) dX2_copy_75 (fun H locs hP hD hS => ?_)
  have hI : cI (gD g) vwCl (cw g) A s (sL st 3 ((gL st 3) + (1024 : Int64))) H locs := ⟨hP, hD, hS⟩
  exact cx_vret C hI hF dX2_copy_78
def cDisk_copy (st : CS) : CS := (if ((gI st 15) = 0) then (cDisk_copy_b66 (sA st 5 (va_cpy (gA st 0) (gA st 5) (((gI st 14) &&& (15 : Int32)) * (1024 : Int32)).toNatClampNeg (((gI st 13) &&& (15 : Int32)) * (1024 : Int32)).toNatClampNeg (1024 : Int32).toNatClampNeg)) ) else (cDisk_copy_b66 (sA st 0 (va_cpy (gA st 5) (gA st 0) (((gI st 13) &&& (15 : Int32)) * (1024 : Int32)).toNatClampNeg (((gI st 14) &&& (15 : Int32)) * (1024 : Int32)).toNatClampNeg (1024 : Int32).toNatClampNeg)) ))
set_option maxHeartbeats 4000000 in
set_option maxRecDepth 100000 in
theorem k_cDisk_copy {p : Program} {l : Launch} {e : Env} {s : State} {m : MethodId} {args : Array Value} {below : List Frame} {meth : Method} {c : Code} {A : Nat → Prop} (g : Gm) (C : cX p s m args meth c A cX2_copy none 3 RX2 wq_X2_copy (gD g) vwCl (cty g) (cz g)) (st : CS) (H : Heap) (locs : List Loc) (ls : Array Slot) (hI : cI (gD g) vwCl (cw g) A s st H locs) (hl : lv_has ls 3 [(0, .ref (gad g 10))]) (X : CS) (hF : X = cDisk_copy st) : W p l e rm_cDisk_copy s m args below meth c H locs 0 0 (MQ below (cQv (gD g) vwCl (cty g) (cw g) A X) args s 0 0 A) (F0 m 0 ls []) := by
  obtain ⟨hx, hb, hr, hml, hown, hts, hlocks, hK, hA, hZ, hzo⟩ := id C
  unfold cDisk_copy at hF
  refine lv_aload_n hx hb dX2_copy_0 rfl (lv_at hl 0 rfl) ?_
  refine va_get (D := gD g) (ci := 2) (C := RX2) (T := TX2) (N := 11) (v := .int (gI st 13)) hx hb hts (fun w h => List.mem_cons_of_mem _ (isX20 w h)) hown hK hI.1 10 rfl rfl 6 (by decide) (hts _ (List.mem_cons_of_mem _ mw638)) (fun _ h9 => h9) rfl dX2_copy_1 ?_
  refine lv_bipush (v := (15 : Int32)) hx hb dX2_copy_4 (by decide) ?_
  refine lv_iand hx hb dX2_copy_6 ?_
  refine lv_sipush (v := (1024 : Int32)) hx hb dX2_copy_7 (by decide) ?_
  refine lv_imul hx hb dX2_copy_10 ?_
  refine lv_istore_n (lv' := [(1, .int (((gI st 13) &&& (15 : Int32)) * (1024 : Int32))), (0, .ref (gad g 10))]) hx hb dX2_copy_11 rfl hl (by decide) rfl (fun ls hl => ?_)
  refine lv_aload_n hx hb dX2_copy_12 rfl (lv_at hl 1 rfl) ?_
  refine va_get (D := gD g) (ci := 2) (C := RX2) (T := TX2) (N := 11) (v := .int (gI st 14)) hx hb hts (fun w h => List.mem_cons_of_mem _ (isX20 w h)) hown hK hI.1 10 rfl rfl 7 (by decide) (hts _ (List.mem_cons_of_mem _ mw639)) (fun _ h9 => h9) rfl dX2_copy_13 ?_
  refine lv_bipush (v := (15 : Int32)) hx hb dX2_copy_16 (by decide) ?_
  refine lv_iand hx hb dX2_copy_18 ?_
  refine lv_sipush (v := (1024 : Int32)) hx hb dX2_copy_19 (by decide) ?_
  refine lv_imul hx hb dX2_copy_22 ?_
  refine lv_istore_n (lv' := [(2, .int (((gI st 14) &&& (15 : Int32)) * (1024 : Int32))), (1, .int (((gI st 13) &&& (15 : Int32)) * (1024 : Int32))), (0, .ref (gad g 10))]) hx hb dX2_copy_23 rfl hl (by decide) rfl (fun ls hl => ?_)
  refine lv_aload_n hx hb dX2_copy_24 rfl (lv_at hl 2 rfl) ?_
  refine va_get (D := gD g) (ci := 2) (C := RX2) (T := TX2) (N := 11) (v := .int (gI st 15)) hx hb hts (fun w h => List.mem_cons_of_mem _ (isX20 w h)) hown hK hI.1 10 rfl rfl 8 (by decide) (hts _ (List.mem_cons_of_mem _ mw637)) (fun _ h9 => h9) rfl dX2_copy_25 ?_
  refine lv_if_eq (tgt := 50) hx hb dX2_copy_28 (by decide) (fun c_28 => ?_) (fun c_28 => ?_)
  · have hF := hF.trans (if_pos c_28)
    refine lv_aload_n hx hb dX2_copy_50 rfl (lv_at hl 2 rfl) ?_
    refine va_get (D := gD g) (ci := 2) (C := RX2) (T := TX2) (N := 11) (v := .ref (gad g 1)) hx hb hts (fun w h => List.mem_cons_of_mem _ (isX20 w h)) hown hK hI.1 10 rfl rfl 0 (by decide) (hts _ (List.mem_cons_of_mem _ mw73)) (fun _ h9 => h9) rfl dX2_copy_51 ?_
    refine lv_iload_n hx hb dX2_copy_54 rfl (lv_at hl 0 rfl) ?_
    refine lv_aload_n hx hb dX2_copy_55 rfl (lv_at hl 2 rfl) ?_
    refine va_get (D := gD g) (ci := 2) (C := RX2) (T := TX2) (N := 11) (v := .ref (gad g 11)) hx hb hts (fun w h => List.mem_cons_of_mem _ (isX20 w h)) hown hK hI.1 10 rfl rfl 2 (by decide) (hts _ (List.mem_cons_of_mem _ mw72)) (fun _ h9 => h9) rfl dX2_copy_56 ?_
    refine lv_iload_n hx hb dX2_copy_59 rfl (lv_at hl 1 rfl) ?_
    refine lv_sipush (v := (1024 : Int32)) hx hb dX2_copy_60 (by decide) ?_
    refine va_copyi hx hb (hml.trans hl.1.symm) hown (hts _ (List.mem_cons_of_mem _ mw706)) (hts _ (List.mem_cons_of_mem _ mw707)) (hts _ (List.mem_cons_of_mem _ mw708)) (hts _ (List.mem_cons_of_mem _ mw709)) hK hI.1 hI.2.1 hI.2.2 1 11 0 5 (f := (gA st 0)) (g := (gA st 5)) rfl rfl rfl rfl rfl (sec_nn _) (sec_nn _) (by decide) (sec_le _) (sec_le _) (fun _ _ => rfl) (Nat.le_of_ble_eq_true rfl) (Nat.le_of_ble_eq_true rfl) dX2_copy_63 (fun H locs hP hD hS => ?_)
    have hI : cI (gD g) vwCl (cw g) A s (sA st 5 (va_cpy (gA st 0) (gA st 5) (((gI st 14) &&& (15 : Int32)) * (1024 : Int32)).toNatClampNeg (((gI st 13) &&& (15 : Int32)) * (1024 : Int32)).toNatClampNeg (1024 : Int32).toNatClampNeg)) H locs := ⟨hP, hD, hS⟩
    exact k_cDisk_copy_b66 g C (sA st 5 (va_cpy (gA st 0) (gA st 5) (((gI st 14) &&& (15 : Int32)) * (1024 : Int32)).toNatClampNeg (((gI st 13) &&& (15 : Int32)) * (1024 : Int32)).toNatClampNeg (1024 : Int32).toNatClampNeg))  H locs ls hI (lv_sub hl [2] rfl) X hF
  · have hF := hF.trans (if_neg c_28)
    refine lv_aload_n hx hb dX2_copy_31 rfl (lv_at hl 2 rfl) ?_
    refine va_get (D := gD g) (ci := 2) (C := RX2) (T := TX2) (N := 11) (v := .ref (gad g 11)) hx hb hts (fun w h => List.mem_cons_of_mem _ (isX20 w h)) hown hK hI.1 10 rfl rfl 2 (by decide) (hts _ (List.mem_cons_of_mem _ mw72)) (fun _ h9 => h9) rfl dX2_copy_32 ?_
    refine lv_iload_n hx hb dX2_copy_35 rfl (lv_at hl 1 rfl) ?_
    refine lv_aload_n hx hb dX2_copy_36 rfl (lv_at hl 2 rfl) ?_
    refine va_get (D := gD g) (ci := 2) (C := RX2) (T := TX2) (N := 11) (v := .ref (gad g 1)) hx hb hts (fun w h => List.mem_cons_of_mem _ (isX20 w h)) hown hK hI.1 10 rfl rfl 0 (by decide) (hts _ (List.mem_cons_of_mem _ mw73)) (fun _ h9 => h9) rfl dX2_copy_37 ?_
    refine lv_iload_n hx hb dX2_copy_40 rfl (lv_at hl 0 rfl) ?_
    refine lv_sipush (v := (1024 : Int32)) hx hb dX2_copy_41 (by decide) ?_
    refine va_copyi hx hb (hml.trans hl.1.symm) hown (hts _ (List.mem_cons_of_mem _ mw706)) (hts _ (List.mem_cons_of_mem _ mw707)) (hts _ (List.mem_cons_of_mem _ mw708)) (hts _ (List.mem_cons_of_mem _ mw709)) hK hI.1 hI.2.1 hI.2.2 11 1 5 0 (f := (gA st 5)) (g := (gA st 0)) rfl rfl rfl rfl rfl (sec_nn _) (sec_nn _) (by decide) (sec_le _) (sec_le _) (fun _ _ => rfl) (Nat.le_of_ble_eq_true rfl) (Nat.le_of_ble_eq_true rfl) dX2_copy_44 (fun H locs hP hD hS => ?_)
    have hI : cI (gD g) vwCl (cw g) A s (sA st 0 (va_cpy (gA st 5) (gA st 0) (((gI st 13) &&& (15 : Int32)) * (1024 : Int32)).toNatClampNeg (((gI st 14) &&& (15 : Int32)) * (1024 : Int32)).toNatClampNeg (1024 : Int32).toNatClampNeg)) H locs := ⟨hP, hD, hS⟩
    refine lv_goto (tgt := 66) hx hb dX2_copy_47 (by decide) ?_
    exact k_cDisk_copy_b66 g C (sA st 0 (va_cpy (gA st 5) (gA st 0) (((gI st 13) &&& (15 : Int32)) * (1024 : Int32)).toNatClampNeg (((gI st 14) &&& (15 : Int32)) * (1024 : Int32)).toNatClampNeg (1024 : Int32).toNatClampNeg))  H locs ls hI (lv_sub hl [2] rfl) X hF
set_option maxHeartbeats 4000000 in
set_option maxRecDepth 100000 in
theorem c_cDisk_copy (l : Launch) (g : Gm) (st : CS) : Mv l yX2_copy wq_X2_copy rm_cDisk_copy (gD g) vwCl (cty g) (cw g) (cz g) [.ref (gad g 10)] st (cDisk_copy st) := by
  intro sz
  refine Met.ofW (cc := cX2_copy) (maxL := 3) (ret := none) (by decide) rfl ?_
  intro p e s m args below meth c s₁ B hml hv
  obtain ⟨rfl, hsz, hP, hK, hD0, hZ⟩ := hv
  subst hsz
  have hl := lv_entry ([.ref (gad g 10)]) (n := 3) (Nat.le_of_ble_eq_true rfl)
  rw [lg_entry_eq]
  generalize (lg_sl ([.ref (gad g 10)]) ++ List.replicate (3 - (lg_sl ([.ref (gad g 10)])).length) Slot.unset).toArray = ls at hl ⊢
  exact k_cDisk_copy g ⟨B.exec, B.bytes, B.returns, hml, findClass_of_methodNamed B.named, atoms_spec (ws := wq_X2_copy) B.pre, B.notSynchronized, hK, fun q h => Or.inr h, hZ, cz_ok g⟩ st  _ _ ls ⟨hP, hD0.self, va_S.rf⟩ hl _ rfl
abbrev wq_X2_goOn : List Cond := .code yX2_goOn cX2_goOn 2 none :: wAll
theorem yd_yX2_goOn : yX2_goOn.cls = RX2 ∧ yX2_goOn.cls ≠ "java/lang/invoke/MethodHandle" ∧ yX2_goOn.cls ≠ "java/lang/invoke/VarHandle" ∧ (parseMethodDescriptor yX2_goOn.desc).map (fun d => d.parameters.length) = some 1 := by decide +kernel
abbrev rm_cDisk_goOn : Room := { frames := 2, cells := 0, slots := 0, locals := 62 }
def cDisk_goOn_b39 (st : CS) : CS := (cDisk_copy st)
set_option maxHeartbeats 4000000 in
set_option maxRecDepth 100000 in
theorem k_cDisk_goOn_b39 {p : Program} {l : Launch} {e : Env} {s : State} {m : MethodId} {args : Array Value} {below : List Frame} {meth : Method} {c : Code} {A : Nat → Prop} (g : Gm) (C : cX p s m args meth c A cX2_goOn none 2 RX2 wq_X2_goOn (gD g) vwCl (cty g) (cz g)) (st : CS) (H : Heap) (locs : List Loc) (ls : Array Slot) (hI : cI (gD g) vwCl (cw g) A s st H locs) (hl : lv_has ls 2 [(0, .ref (gad g 10))]) (X : CS) (hF : X = cDisk_goOn_b39 st ) : W p l e rm_cDisk_goOn s m args below meth c H locs 0 0 (MQ below (cQv (gD g) vwCl (cty g) (cw g) A X) args s 0 0 A) (F0 m 39 ls []) := by
  obtain ⟨hx, hb, hr, hml, hown, hts, hlocks, hK, hA, hZ, hzo⟩ := id C
  unfold cDisk_goOn_b39 at hF
  refine lv_aload_n hx hb dX2_goOn_39 rfl (lv_at hl 0 rfl) ?_
  refine cx_Vv (As := []) (rest := []) C (c_cDisk_copy l g st ) (cwV 0 hts (gd_V _ mw702 mw703 mw704 mw30 mw705) rfl rfl rfl yd_yX2_copy ⟨Nat.le_of_ble_eq_true rfl, Nat.le_of_ble_eq_true rfl⟩) (va_recv hK hI.1 (ci := 2) (q0 := 10) rfl rfl) hI rfl hl.1 rfl (Nat.le_of_ble_eq_true rfl) dX2_goOn_40 (fun H locs hI => ?_)
  exact cx_vret C hI hF dX2_goOn_43
def cDisk_goOn (st : CS) (x1 : Int32) : CS := (if ((gI st 16) = 0) then st else (if ((gI st 16) ≤ x1) then (cDisk_goOn_b39 (cLines_diskIsReady (sI st 16 (0 : Int32))) ) else (sI st 16 ((gI st 16) - x1))))
set_option maxHeartbeats 4000000 in
set_option maxRecDepth 100000 in
theorem k_cDisk_goOn {p : Program} {l : Launch} {e : Env} {s : State} {m : MethodId} {args : Array Value} {below : List Frame} {meth : Method} {c : Code} {A : Nat → Prop} (g : Gm) (C : cX p s m args meth c A cX2_goOn none 2 RX2 wq_X2_goOn (gD g) vwCl (cty g) (cz g)) (st : CS) (x1 : Int32) (H : Heap) (locs : List Loc) (ls : Array Slot) (hI : cI (gD g) vwCl (cw g) A s st H locs) (hl : lv_has ls 2 [(0, .ref (gad g 10)), (1, .int x1)]) (X : CS) (hF : X = cDisk_goOn st x1) : W p l e rm_cDisk_goOn s m args below meth c H locs 0 0 (MQ below (cQv (gD g) vwCl (cty g) (cw g) A X) args s 0 0 A) (F0 m 0 ls []) := by
  obtain ⟨hx, hb, hr, hml, hown, hts, hlocks, hK, hA, hZ, hzo⟩ := id C
  unfold cDisk_goOn at hF
  refine lv_aload_n hx hb dX2_goOn_0 rfl (lv_at hl 0 rfl) ?_
  refine va_get (D := gD g) (ci := 2) (C := RX2) (T := TX2) (N := 11) (v := .int (gI st 16)) hx hb hts (fun w h => List.mem_cons_of_mem _ (isX20 w h)) hown hK hI.1 10 rfl rfl 9 (by decide) (hts _ (List.mem_cons_of_mem _ mw157)) (fun _ h9 => h9) rfl dX2_goOn_1 ?_
  refine lv_if_ne (tgt := 8) hx hb dX2_goOn_4 (by decide) (fun c_4 => ?_) (fun c_4 => ?_)
  · have hF := hF.trans (if_neg c_4)
    refine lv_aload_n hx hb dX2_goOn_8 rfl (lv_at hl 0 rfl) ?_
    refine va_get (D := gD g) (ci := 2) (C := RX2) (T := TX2) (N := 11) (v := .int (gI st 16)) hx hb hts (fun w h => List.mem_cons_of_mem _ (isX20 w h)) hown hK hI.1 10 rfl rfl 9 (by decide) (hts _ (List.mem_cons_of_mem _ mw157)) (fun _ h9 => h9) rfl dX2_goOn_9 ?_
    refine lv_iload_n hx hb dX2_goOn_12 rfl (lv_at hl 1 rfl) ?_
    refine lv_icmp_le (tgt := 27) hx hb dX2_goOn_13 (by decide) (fun c_13 => ?_) (fun c_13 => ?_)
    · have hF := hF.trans (if_pos c_13)
      refine lv_aload_n hx hb dX2_goOn_27 rfl (lv_at hl 0 rfl) ?_
      refine lv_iconst (v := (0 : Int32)) hx hb dX2_goOn_28 (by decide) ?_
      refine va_put (D := gD g) (ci := 2) (C := RX2) (T := TX2) (N := 11) (v := .int (0 : Int32)) (ty := .int) hx hb hts (fun w h => List.mem_cons_of_mem _ (isX20 w h)) tyX2 tyX2_ok nmX2 hown hK hI.1 hI.2.1 hI.2.2 10 rfl rfl 9 (by decide) (hts _ (List.mem_cons_of_mem _ mw157)) (fun _ h9 => h9) rfl (by decide +kernel) rfl rfl (Nat.le_of_ble_eq_true rfl) dX2_goOn_29 (fun H locs hP hD hS => ?_)
      have hI : cI (gD g) vwCl (cw g) A s (sI st 16 (0 : Int32)) H locs := ⟨hP, hD, hS⟩
      refine lv_aload_n hx hb dX2_goOn_32 rfl (lv_at hl 0 rfl) ?_
      refine va_get (D := gD g) (ci := 2) (C := RX2) (T := TX2) (N := 11) (v := .ref (gad g 7)) hx hb hts (fun w h => List.mem_cons_of_mem _ (isX20 w h)) hown hK hI.1 10 rfl rfl 1 (by decide) (hts _ (List.mem_cons_of_mem _ mw74)) (fun _ h9 => h9) rfl dX2_goOn_33 ?_
      refine cx_Vv (As := []) (rest := []) C (c_cLines_diskIsReady l g (sI st 16 (0 : Int32)) ) (cwV 0 hts (gd_V _ mw629 mw630 mw631 mw22 mw632) rfl rfl rfl yd_yX4_diskIsReady ⟨Nat.le_of_ble_eq_true rfl, Nat.le_of_ble_eq_true rfl⟩) (va_recv hK hI.1 (ci := 4) (q0 := 7) rfl rfl) hI rfl hl.1 rfl (Nat.le_of_ble_eq_true rfl) dX2_goOn_36 (fun H locs hI => ?_)
      exact k_cDisk_goOn_b39 g C (cLines_diskIsReady (sI st 16 (0 : Int32)))  H locs ls hI (lv_sub hl [0] rfl) X hF
    · have hF := hF.trans (if_neg c_13)
      refine lv_aload_n hx hb dX2_goOn_16 rfl (lv_at hl 0 rfl) ?_
      refine lv_dup hx hb dX2_goOn_17 rfl ?_
      refine va_get (D := gD g) (ci := 2) (C := RX2) (T := TX2) (N := 11) (v := .int (gI st 16)) hx hb hts (fun w h => List.mem_cons_of_mem _ (isX20 w h)) hown hK hI.1 10 rfl rfl 9 (by decide) (hts _ (List.mem_cons_of_mem _ mw157)) (fun _ h9 => h9) rfl dX2_goOn_18 ?_
      refine lv_iload_n hx hb dX2_goOn_21 rfl (lv_at hl 1 rfl) ?_
      refine lv_isub hx hb dX2_goOn_22 ?_
      refine va_put (D := gD g) (ci := 2) (C := RX2) (T := TX2) (N := 11) (v := .int ((gI st 16) - x1)) (ty := .int) hx hb hts (fun w h => List.mem_cons_of_mem _ (isX20 w h)) tyX2 tyX2_ok nmX2 hown hK hI.1 hI.2.1 hI.2.2 10 rfl rfl 9 (by decide) (hts _ (List.mem_cons_of_mem _ mw157)) (fun _ h9 => h9) rfl (by decide +kernel) rfl rfl (Nat.le_of_ble_eq_true rfl) dX2_goOn_23 (fun H locs hP hD hS => ?_)
      have hI : cI (gD g) vwCl (cw g) A s (sI st 16 ((gI st 16) - x1)) H locs := ⟨hP, hD, hS⟩
      exact cx_vret C hI hF dX2_goOn_26
  · have hF := hF.trans (if_pos c_4)
    exact cx_vret C hI hF dX2_goOn_7
set_option maxHeartbeats 4000000 in
set_option maxRecDepth 100000 in
theorem c_cDisk_goOn (l : Launch) (g : Gm) (st : CS) (x1 : Int32) : Mv l yX2_goOn wq_X2_goOn rm_cDisk_goOn (gD g) vwCl (cty g) (cw g) (cz g) [.ref (gad g 10), .int x1] st (cDisk_goOn st x1) := by
  intro sz
  refine Met.ofW (cc := cX2_goOn) (maxL := 2) (ret := none) (by decide) rfl ?_
  intro p e s m args below meth c s₁ B hml hv
  obtain ⟨rfl, hsz, hP, hK, hD0, hZ⟩ := hv
  subst hsz
  have hl := lv_entry ([.ref (gad g 10), .int x1]) (n := 2) (Nat.le_of_ble_eq_true rfl)
  rw [lg_entry_eq]
  generalize (lg_sl ([.ref (gad g 10), .int x1]) ++ List.replicate (2 - (lg_sl ([.ref (gad g 10), .int x1])).length) Slot.unset).toArray = ls at hl ⊢
  exact k_cDisk_goOn g ⟨B.exec, B.bytes, B.returns, hml, findClass_of_methodNamed B.named, atoms_spec (ws := wq_X2_goOn) B.pre, B.notSynchronized, hK, fun q h => Or.inr h, hZ, cz_ok g⟩ st x1 _ _ ls ⟨hP, hD0.self, va_S.rf⟩ hl _ rfl
abbrev wq_X1_begin : List Cond := .code yX1_begin cX1_begin 1 none :: wAll
theorem yd_yX1_begin : yX1_begin.cls = RX1 ∧ yX1_begin.cls ≠ "java/lang/invoke/MethodHandle" ∧ yX1_begin.cls ≠ "java/lang/invoke/VarHandle" ∧ (parseMethodDescriptor yX1_begin.desc).map (fun d => d.parameters.length) = some 0 := by decide +kernel
abbrev rm_cController_begin : Room := { frames := 1, cells := 0, slots := 0, locals := 20 }
def cController_begin_b14 (st : CS) : CS := (sI st 17 (0 : Int32))
set_option maxHeartbeats 4000000 in
set_option maxRecDepth 100000 in
theorem k_cController_begin_b14 {p : Program} {l : Launch} {e : Env} {s : State} {m : MethodId} {args : Array Value} {below : List Frame} {meth : Method} {c : Code} {A : Nat → Prop} (g : Gm) (C : cX p s m args meth c A cX1_begin none 1 RX1 wq_X1_begin (gD g) vwCl (cty g) (cz g)) (st : CS) (H : Heap) (locs : List Loc) (ls : Array Slot) (hI : cI (gD g) vwCl (cw g) A s st H locs) (hl : lv_has ls 1 [(0, .ref (gad g 12))]) (X : CS) (hF : X = cController_begin_b14 st ) : W p l e rm_cController_begin s m args below meth c H locs 0 0 (MQ below (cQv (gD g) vwCl (cty g) (cw g) A X) args s 0 0 A) (F0 m 14 ls []) := by
  obtain ⟨hx, hb, hr, hml, hown, hts, hlocks, hK, hA, hZ, hzo⟩ := id C
  unfold cController_begin_b14 at hF
  refine lv_aload_n hx hb dX1_begin_14 rfl (lv_at hl 0 rfl) ?_
  refine lv_iconst (v := (0 : Int32)) hx hb dX1_begin_15 (by decide) ?_
  refine va_put (D := gD g) (ci := 1) (C := RX1) (T := TX1) (N := 5) (v := .int (0 : Int32)) (ty := .int) hx hb hts (fun w h => List.mem_cons_of_mem _ (isX10 w h)) tyX1 tyX1_ok nmX1 hown hK hI.1 hI.2.1 hI.2.2 12 rfl rfl 4 (by decide) (hts _ (List.mem_cons_of_mem _ mw162)) (fun _ h9 => h9) rfl (by decide +kernel) rfl rfl (Nat.le_of_ble_eq_true rfl) dX1_begin_16 (fun H locs hP hD hS => ?_)
  have hI : cI (gD g) vwCl (cw g) A s (sI st 17 (0 : Int32)) H locs := ⟨hP, hD, hS⟩
  exact cx_vret C hI hF dX1_begin_19
def cController_begin_b7 (st : CS) : CS := (cController_begin_b14 (cTimer_begin1 st) )
set_option maxHeartbeats 4000000 in
set_option maxRecDepth 100000 in
theorem k_cController_begin_b7 {p : Program} {l : Launch} {e : Env} {s : State} {m : MethodId} {args : Array Value} {below : List Frame} {meth : Method} {c : Code} {A : Nat → Prop} (g : Gm) (C : cX p s m args meth c A cX1_begin none 1 RX1 wq_X1_begin (gD g) vwCl (cty g) (cz g)) (st : CS) (H : Heap) (locs : List Loc) (ls : Array Slot) (hI : cI (gD g) vwCl (cw g) A s st H locs) (hl : lv_has ls 1 [(0, .ref (gad g 12))]) (X : CS) (hF : X = cController_begin_b7 st ) : W p l e rm_cController_begin s m args below meth c H locs 0 0 (MQ below (cQv (gD g) vwCl (cty g) (cw g) A X) args s 0 0 A) (F0 m 7 ls []) := by
  obtain ⟨hx, hb, hr, hml, hown, hts, hlocks, hK, hA, hZ, hzo⟩ := id C
  unfold cController_begin_b7 at hF
  refine lv_aload_n hx hb dX1_begin_7 rfl (lv_at hl 0 rfl) ?_
  refine va_get (D := gD g) (ci := 1) (C := RX1) (T := TX1) (N := 5) (v := .ref (gad g 14)) hx hb hts (fun w h => List.mem_cons_of_mem _ (isX10 w h)) hown hK hI.1 12 rfl rfl 3 (by decide) (hts _ (List.mem_cons_of_mem _ mw83)) (fun _ h9 => h9) rfl dX1_begin_8 ?_
  refine cx_Vv (As := []) (rest := []) C (c_cTimer_begin1 l g st ) (cwV 0 hts (gd_V _ mw163 mw164 mw165 mw81 mw166) rfl rfl rfl yd_yX9_begin ⟨Nat.le_of_ble_eq_true rfl, Nat.le_of_ble_eq_true rfl⟩) (va_recv hK hI.1 (ci := 9) (q0 := 14) rfl rfl) hI rfl hl.1 rfl (Nat.le_of_ble_eq_true rfl) dX1_begin_11 (fun H locs hI => ?_)
  exact k_cController_begin_b14 g C (cTimer_begin1 st)  H locs ls hI (lv_sub hl [0] rfl) X hF
def cController_begin (st : CS) : CS := (cController_begin_b7 (cTimer_begin0 st) )
set_option maxHeartbeats 4000000 in
set_option maxRecDepth 100000 in
theorem k_cController_begin {p : Program} {l : Launch} {e : Env} {s : State} {m : MethodId} {args : Array Value} {below : List Frame} {meth : Method} {c : Code} {A : Nat → Prop} (g : Gm) (C : cX p s m args meth c A cX1_begin none 1 RX1 wq_X1_begin (gD g) vwCl (cty g) (cz g)) (st : CS) (H : Heap) (locs : List Loc) (ls : Array Slot) (hI : cI (gD g) vwCl (cw g) A s st H locs) (hl : lv_has ls 1 [(0, .ref (gad g 12))]) (X : CS) (hF : X = cController_begin st) : W p l e rm_cController_begin s m args below meth c H locs 0 0 (MQ below (cQv (gD g) vwCl (cty g) (cw g) A X) args s 0 0 A) (F0 m 0 ls []) := by
  obtain ⟨hx, hb, hr, hml, hown, hts, hlocks, hK, hA, hZ, hzo⟩ := id C
  unfold cController_begin at hF
  refine lv_aload_n hx hb dX1_begin_0 rfl (lv_at hl 0 rfl) ?_
  refine va_get (D := gD g) (ci := 1) (C := RX1) (T := TX1) (N := 5) (v := .ref (gad g 13)) hx hb hts (fun w h => List.mem_cons_of_mem _ (isX10 w h)) hown hK hI.1 12 rfl rfl 2 (by decide) (hts _ (List.mem_cons_of_mem _ mw82)) (fun _ h9 => h9) rfl dX1_begin_1 ?_
  refine cx_Vv (As := []) (rest := []) C (c_cTimer_begin0 l g st ) (cwV 0 hts (gd_V _ mw163 mw164 mw165 mw81 mw166) rfl rfl rfl yd_yX9_begin ⟨Nat.le_of_ble_eq_true rfl, Nat.le_of_ble_eq_true rfl⟩) (va_recv hK hI.1 (ci := 9) (q0 := 13) rfl rfl) hI rfl hl.1 rfl (Nat.le_of_ble_eq_true rfl) dX1_begin_4 (fun H locs hI => ?_)
  exact k_cController_begin_b7 g C (cTimer_begin0 st)  H locs ls hI (lv_sub hl [0] rfl) X hF
set_option maxHeartbeats 4000000 in
set_option maxRecDepth 100000 in
theorem c_cController_begin (l : Launch) (g : Gm) (st : CS) : Mv l yX1_begin wq_X1_begin rm_cController_begin (gD g) vwCl (cty g) (cw g) (cz g) [.ref (gad g 12)] st (cController_begin st) := by
  intro sz
  refine Met.ofW (cc := cX1_begin) (maxL := 1) (ret := none) (by decide) rfl ?_
  intro p e s m args below meth c s₁ B hml hv
  obtain ⟨rfl, hsz, hP, hK, hD0, hZ⟩ := hv
  subst hsz
  have hl := lv_entry ([.ref (gad g 12)]) (n := 1) (Nat.le_of_ble_eq_true rfl)
  rw [lg_entry_eq]
  generalize (lg_sl ([.ref (gad g 12)]) ++ List.replicate (1 - (lg_sl ([.ref (gad g 12)])).length) Slot.unset).toArray = ls at hl ⊢
  exact k_cController_begin g ⟨B.exec, B.bytes, B.returns, hml, findClass_of_methodNamed B.named, atoms_spec (ws := wq_X1_begin) B.pre, B.notSynchronized, hK, fun q h => Or.inr h, hZ, cz_ok g⟩ st  _ _ ls ⟨hP, hD0.self, va_S.rf⟩ hl _ rfl
abbrev wq_X1_read : List Cond := .code yX1_read cX1_read 2 (some .int) :: wAll
theorem yd_yX1_read : yX1_read.cls = RX1 ∧ yX1_read.cls ≠ "java/lang/invoke/MethodHandle" ∧ yX1_read.cls ≠ "java/lang/invoke/VarHandle" ∧ (parseMethodDescriptor yX1_read.desc).map (fun d => d.parameters.length) = some 1 := by decide +kernel
abbrev rm_cController_read : Room := { frames := 0, cells := 0, slots := 0, locals := 0 }
def cController_read (st : CS) (x1 : Int32) : Int32 := (if x1 = (1 : Int32) then (gI st 8) else (if x1 = (4 : Int32) then (gI st 2) else (if x1 = (5 : Int32) then ((gI st 2) &&& (gI st 5)) else (if x1 = (6 : Int32) then (gI st 5) else (if x1 = (8 : Int32) then (gI st 3) else (if x1 = (9 : Int32) then ((gI st 3) &&& (gI st 6)) else (if x1 = (10 : Int32) then (gI st 6) else (if x1 = (12 : Int32) then (gI st 4) else (if x1 = (13 : Int32) then ((gI st 4) &&& (gI st 7)) else (if x1 = (14 : Int32) then (gI st 7) else (if x1 = (16 : Int32) then ((gI st 20) &&& (255 : Int32)) else (if x1 = (17 : Int32) then (ushr (gI st 20) (8 : Int32)) else (if x1 = (20 : Int32) then ((gI st 23) &&& (255 : Int32)) else (if x1 = (21 : Int32) then (ushr (gI st 23) (8 : Int32)) else (0 : Int32)))))))))))))))
set_option maxHeartbeats 4000000 in
set_option maxRecDepth 100000 in
theorem k_cController_read {p : Program} {l : Launch} {e : Env} {s : State} {m : MethodId} {args : Array Value} {below : List Frame} {meth : Method} {c : Code} {A : Nat → Prop} (g : Gm) (C : cX p s m args meth c A cX1_read (some .int) 2 RX1 wq_X1_read (gD g) vwCl (cty g) (cz g)) (st : CS) (x1 : Int32) (H : Heap) (locs : List Loc) (ls : Array Slot) (hI : cI (gD g) vwCl (cw g) A s st H locs) (hl : lv_has ls 2 [(0, .ref (gad g 12)), (1, .int x1)]) (X : Int32) (hF : X = cController_read st x1) : W p l e rm_cController_read s m args below meth c H locs 0 0 (MQ below (cQi (gD g) vwCl (cty g) (cw g) A st X) args s 0 0 A) (F0 m 0 ls []) := by
  obtain ⟨hx, hb, hr, hml, hown, hts, hlocks, hK, hA, hZ, hzo⟩ := id C
  unfold cController_read at hF
  refine lv_iload_n hx hb dX1_read_0 rfl (lv_at hl 1 rfl) ?_
  by_cases c_1_0 : x1 = (1 : Int32)
  · have hF := hF.trans (if_pos c_1_0)
    refine lv_tableIn (off := 99) (tgt := 100) hx hb dX1_read_1 (by rw [c_1_0]; decide) (by rw [c_1_0]; decide) (by rw [c_1_0]; rfl) (by decide) ?_
    refine lv_aload_n hx hb dX1_read_100 rfl (lv_at hl 0 rfl) ?_
    refine va_get (D := gD g) (ci := 1) (C := RX1) (T := TX1) (N := 5) (v := .ref (gad g 8)) hx hb hts (fun w h => List.mem_cons_of_mem _ (isX10 w h)) hown hK hI.1 12 rfl rfl 1 (by decide) (hts _ (List.mem_cons_of_mem _ mw85)) (fun _ h9 => h9) rfl dX1_read_101 ?_
    refine va_get (D := gD g) (ci := 8) (C := RX8) (T := TX8) (N := 5) (v := .int (gI st 8)) hx hb hts (fun w h => List.mem_cons_of_mem _ (isX80 w h)) hown hK hI.1 8 rfl rfl 3 (by decide) (hts _ (List.mem_cons_of_mem _ mw548)) (fun _ h9 => h9) rfl dX1_read_104 ?_
    exact cx_iret C hI rfl hF dX1_read_107
  · have hF := hF.trans (if_neg c_1_0)
    by_cases c_1_1 : x1 = (4 : Int32)
    · have hF := hF.trans (if_pos c_1_1)
      refine lv_tableIn (off := 107) (tgt := 108) hx hb dX1_read_1 (by rw [c_1_1]; decide) (by rw [c_1_1]; decide) (by rw [c_1_1]; rfl) (by decide) ?_
      refine lv_aload_n hx hb dX1_read_108 rfl (lv_at hl 0 rfl) ?_
      refine va_get (D := gD g) (ci := 1) (C := RX1) (T := TX1) (N := 5) (v := .ref (gad g 7)) hx hb hts (fun w h => List.mem_cons_of_mem _ (isX10 w h)) hown hK hI.1 12 rfl rfl 0 (by decide) (hts _ (List.mem_cons_of_mem _ mw84)) (fun _ h9 => h9) rfl dX1_read_109 ?_
      refine va_get (D := gD g) (ci := 4) (C := RX4) (T := TX4) (N := 6) (v := .int (gI st 2)) hx hb hts (fun w h => List.mem_cons_of_mem _ (isX40 w h)) hown hK hI.1 7 rfl rfl 0 (by decide) (hts _ (List.mem_cons_of_mem _ mw549)) (fun _ h9 => h9) rfl dX1_read_112 ?_
      exact cx_iret C hI rfl hF dX1_read_115
    · have hF := hF.trans (if_neg c_1_1)
      by_cases c_1_2 : x1 = (5 : Int32)
      · have hF := hF.trans (if_pos c_1_2)
        refine lv_tableIn (off := 115) (tgt := 116) hx hb dX1_read_1 (by rw [c_1_2]; decide) (by rw [c_1_2]; decide) (by rw [c_1_2]; rfl) (by decide) ?_
        refine lv_aload_n hx hb dX1_read_116 rfl (lv_at hl 0 rfl) ?_
        refine va_get (D := gD g) (ci := 1) (C := RX1) (T := TX1) (N := 5) (v := .ref (gad g 7)) hx hb hts (fun w h => List.mem_cons_of_mem _ (isX10 w h)) hown hK hI.1 12 rfl rfl 0 (by decide) (hts _ (List.mem_cons_of_mem _ mw84)) (fun _ h9 => h9) rfl dX1_read_117 ?_
        refine va_get (D := gD g) (ci := 4) (C := RX4) (T := TX4) (N := 6) (v := .int (gI st 2)) hx hb hts (fun w h => List.mem_cons_of_mem _ (isX40 w h)) hown hK hI.1 7 rfl rfl 0 (by decide) (hts _ (List.mem_cons_of_mem _ mw549)) (fun _ h9 => h9) rfl dX1_read_120 ?_
        refine lv_aload_n hx hb dX1_read_123 rfl (lv_at hl 0 rfl) ?_
        refine va_get (D := gD g) (ci := 1) (C := RX1) (T := TX1) (N := 5) (v := .ref (gad g 7)) hx hb hts (fun w h => List.mem_cons_of_mem _ (isX10 w h)) hown hK hI.1 12 rfl rfl 0 (by decide) (hts _ (List.mem_cons_of_mem _ mw84)) (fun _ h9 => h9) rfl dX1_read_124 ?_
        refine va_get (D := gD g) (ci := 4) (C := RX4) (T := TX4) (N := 6) (v := .int (gI st 5)) hx hb hts (fun w h => List.mem_cons_of_mem _ (isX40 w h)) hown hK hI.1 7 rfl rfl 3 (by decide) (hts _ (List.mem_cons_of_mem _ mw550)) (fun _ h9 => h9) rfl dX1_read_127 ?_
        refine lv_iand hx hb dX1_read_130 ?_
        exact cx_iret C hI rfl hF dX1_read_131
      · have hF := hF.trans (if_neg c_1_2)
        by_cases c_1_3 : x1 = (6 : Int32)
        · have hF := hF.trans (if_pos c_1_3)
          refine lv_tableIn (off := 131) (tgt := 132) hx hb dX1_read_1 (by rw [c_1_3]; decide) (by rw [c_1_3]; decide) (by rw [c_1_3]; rfl) (by decide) ?_
          refine lv_aload_n hx hb dX1_read_132 rfl (lv_at hl 0 rfl) ?_
          refine va_get (D := gD g) (ci := 1) (C := RX1) (T := TX1) (N := 5) (v := .ref (gad g 7)) hx hb hts (fun w h => List.mem_cons_of_mem _ (isX10 w h)) hown hK hI.1 12 rfl rfl 0 (by decide) (hts _ (List.mem_cons_of_mem _ mw84)) (fun _ h9 => h9) rfl dX1_read_133 ?_
          refine va_get (D := gD g) (ci := 4) (C := RX4) (T := TX4) (N := 6) (v := .int (gI st 5)) hx hb hts (fun w h => List.mem_cons_of_mem _ (isX40 w h)) hown hK hI.1 7 rfl rfl 3 (by decide) (hts _ (List.mem_cons_of_mem _ mw550)) (fun _ h9 => h9) rfl dX1_read_136 ?_
          exact cx_iret C hI rfl hF dX1_read_139
        · have hF := hF.trans (if_neg c_1_3)
          by_cases c_1_4 : x1 = (8 : Int32)
          · have hF := hF.trans (if_pos c_1_4)
            refine lv_tableIn (off := 139) (tgt := 140) hx hb dX1_read_1 (by rw [c_1_4]; decide) (by rw [c_1_4]; decide) (by rw [c_1_4]; rfl) (by decide) ?_
            refine lv_aload_n hx hb dX1_read_140 rfl (lv_at hl 0 rfl) ?_
            refine va_get (D := gD g) (ci := 1) (C := RX1) (T := TX1) (N := 5) (v := .ref (gad g 7)) hx hb hts (fun w h => List.mem_cons_of_mem _ (isX10 w h)) hown hK hI.1 12 rfl rfl 0 (by decide) (hts _ (List.mem_cons_of_mem _ mw84)) (fun _ h9 => h9) rfl dX1_read_141 ?_
            refine va_get (D := gD g) (ci := 4) (C := RX4) (T := TX4) (N := 6) (v := .int (gI st 3)) hx hb hts (fun w h => List.mem_cons_of_mem _ (isX40 w h)) hown hK hI.1 7 rfl rfl 1 (by decide) (hts _ (List.mem_cons_of_mem _ mw551)) (fun _ h9 => h9) rfl dX1_read_144 ?_
            exact cx_iret C hI rfl hF dX1_read_147
          · have hF := hF.trans (if_neg c_1_4)
            by_cases c_1_5 : x1 = (9 : Int32)
            · have hF := hF.trans (if_pos c_1_5)
              refine lv_tableIn (off := 147) (tgt := 148) hx hb dX1_read_1 (by rw [c_1_5]; decide) (by rw [c_1_5]; decide) (by rw [c_1_5]; rfl) (by decide) ?_
              refine lv_aload_n hx hb dX1_read_148 rfl (lv_at hl 0 rfl) ?_
              refine va_get (D := gD g) (ci := 1) (C := RX1) (T := TX1) (N := 5) (v := .ref (gad g 7)) hx hb hts (fun w h => List.mem_cons_of_mem _ (isX10 w h)) hown hK hI.1 12 rfl rfl 0 (by decide) (hts _ (List.mem_cons_of_mem _ mw84)) (fun _ h9 => h9) rfl dX1_read_149 ?_
              refine va_get (D := gD g) (ci := 4) (C := RX4) (T := TX4) (N := 6) (v := .int (gI st 3)) hx hb hts (fun w h => List.mem_cons_of_mem _ (isX40 w h)) hown hK hI.1 7 rfl rfl 1 (by decide) (hts _ (List.mem_cons_of_mem _ mw551)) (fun _ h9 => h9) rfl dX1_read_152 ?_
              refine lv_aload_n hx hb dX1_read_155 rfl (lv_at hl 0 rfl) ?_
              refine va_get (D := gD g) (ci := 1) (C := RX1) (T := TX1) (N := 5) (v := .ref (gad g 7)) hx hb hts (fun w h => List.mem_cons_of_mem _ (isX10 w h)) hown hK hI.1 12 rfl rfl 0 (by decide) (hts _ (List.mem_cons_of_mem _ mw84)) (fun _ h9 => h9) rfl dX1_read_156 ?_
              refine va_get (D := gD g) (ci := 4) (C := RX4) (T := TX4) (N := 6) (v := .int (gI st 6)) hx hb hts (fun w h => List.mem_cons_of_mem _ (isX40 w h)) hown hK hI.1 7 rfl rfl 4 (by decide) (hts _ (List.mem_cons_of_mem _ mw552)) (fun _ h9 => h9) rfl dX1_read_159 ?_
              refine lv_iand hx hb dX1_read_162 ?_
              exact cx_iret C hI rfl hF dX1_read_163
            · have hF := hF.trans (if_neg c_1_5)
              by_cases c_1_6 : x1 = (10 : Int32)
              · have hF := hF.trans (if_pos c_1_6)
                refine lv_tableIn (off := 163) (tgt := 164) hx hb dX1_read_1 (by rw [c_1_6]; decide) (by rw [c_1_6]; decide) (by rw [c_1_6]; rfl) (by decide) ?_
                refine lv_aload_n hx hb dX1_read_164 rfl (lv_at hl 0 rfl) ?_
                refine va_get (D := gD g) (ci := 1) (C := RX1) (T := TX1) (N := 5) (v := .ref (gad g 7)) hx hb hts (fun w h => List.mem_cons_of_mem _ (isX10 w h)) hown hK hI.1 12 rfl rfl 0 (by decide) (hts _ (List.mem_cons_of_mem _ mw84)) (fun _ h9 => h9) rfl dX1_read_165 ?_
                refine va_get (D := gD g) (ci := 4) (C := RX4) (T := TX4) (N := 6) (v := .int (gI st 6)) hx hb hts (fun w h => List.mem_cons_of_mem _ (isX40 w h)) hown hK hI.1 7 rfl rfl 4 (by decide) (hts _ (List.mem_cons_of_mem _ mw552)) (fun _ h9 => h9) rfl dX1_read_168 ?_
                exact cx_iret C hI rfl hF dX1_read_171
              · have hF := hF.trans (if_neg c_1_6)
                by_cases c_1_7 : x1 = (12 : Int32)
                · have hF := hF.trans (if_pos c_1_7)
                  refine lv_tableIn (off := 171) (tgt := 172) hx hb dX1_read_1 (by rw [c_1_7]; decide) (by rw [c_1_7]; decide) (by rw [c_1_7]; rfl) (by decide) ?_
                  refine lv_aload_n hx hb dX1_read_172 rfl (lv_at hl 0 rfl) ?_
                  refine va_get (D := gD g) (ci := 1) (C := RX1) (T := TX1) (N := 5) (v := .ref (gad g 7)) hx hb hts (fun w h => List.mem_cons_of_mem _ (isX10 w h)) hown hK hI.1 12 rfl rfl 0 (by decide) (hts _ (List.mem_cons_of_mem _ mw84)) (fun _ h9 => h9) rfl dX1_read_173 ?_
                  refine va_get (D := gD g) (ci := 4) (C := RX4) (T := TX4) (N := 6) (v := .int (gI st 4)) hx hb hts (fun w h => List.mem_cons_of_mem _ (isX40 w h)) hown hK hI.1 7 rfl rfl 2 (by decide) (hts _ (List.mem_cons_of_mem _ mw553)) (fun _ h9 => h9) rfl dX1_read_176 ?_
                  exact cx_iret C hI rfl hF dX1_read_179
                · have hF := hF.trans (if_neg c_1_7)
                  by_cases c_1_8 : x1 = (13 : Int32)
                  · have hF := hF.trans (if_pos c_1_8)
                    refine lv_tableIn (off := 179) (tgt := 180) hx hb dX1_read_1 (by rw [c_1_8]; decide) (by rw [c_1_8]; decide) (by rw [c_1_8]; rfl) (by decide) ?_
                    refine lv_aload_n hx hb dX1_read_180 rfl (lv_at hl 0 rfl) ?_
                    refine va_get (D := gD g) (ci := 1) (C := RX1) (T := TX1) (N := 5) (v := .ref (gad g 7)) hx hb hts (fun w h => List.mem_cons_of_mem _ (isX10 w h)) hown hK hI.1 12 rfl rfl 0 (by decide) (hts _ (List.mem_cons_of_mem _ mw84)) (fun _ h9 => h9) rfl dX1_read_181 ?_
                    refine va_get (D := gD g) (ci := 4) (C := RX4) (T := TX4) (N := 6) (v := .int (gI st 4)) hx hb hts (fun w h => List.mem_cons_of_mem _ (isX40 w h)) hown hK hI.1 7 rfl rfl 2 (by decide) (hts _ (List.mem_cons_of_mem _ mw553)) (fun _ h9 => h9) rfl dX1_read_184 ?_
                    refine lv_aload_n hx hb dX1_read_187 rfl (lv_at hl 0 rfl) ?_
                    refine va_get (D := gD g) (ci := 1) (C := RX1) (T := TX1) (N := 5) (v := .ref (gad g 7)) hx hb hts (fun w h => List.mem_cons_of_mem _ (isX10 w h)) hown hK hI.1 12 rfl rfl 0 (by decide) (hts _ (List.mem_cons_of_mem _ mw84)) (fun _ h9 => h9) rfl dX1_read_188 ?_
                    refine va_get (D := gD g) (ci := 4) (C := RX4) (T := TX4) (N := 6) (v := .int (gI st 7)) hx hb hts (fun w h => List.mem_cons_of_mem _ (isX40 w h)) hown hK hI.1 7 rfl rfl 5 (by decide) (hts _ (List.mem_cons_of_mem _ mw554)) (fun _ h9 => h9) rfl dX1_read_191 ?_
                    refine lv_iand hx hb dX1_read_194 ?_
                    exact cx_iret C hI rfl hF dX1_read_195
                  · have hF := hF.trans (if_neg c_1_8)
                    by_cases c_1_9 : x1 = (14 : Int32)
                    · have hF := hF.trans (if_pos c_1_9)
                      refine lv_tableIn (off := 195) (tgt := 196) hx hb dX1_read_1 (by rw [c_1_9]; decide) (by rw [c_1_9]; decide) (by rw [c_1_9]; rfl) (by decide) ?_
                      refine lv_aload_n hx hb dX1_read_196 rfl (lv_at hl 0 rfl) ?_
                      refine va_get (D := gD g) (ci := 1) (C := RX1) (T := TX1) (N := 5) (v := .ref (gad g 7)) hx hb hts (fun w h => List.mem_cons_of_mem _ (isX10 w h)) hown hK hI.1 12 rfl rfl 0 (by decide) (hts _ (List.mem_cons_of_mem _ mw84)) (fun _ h9 => h9) rfl dX1_read_197 ?_
                      refine va_get (D := gD g) (ci := 4) (C := RX4) (T := TX4) (N := 6) (v := .int (gI st 7)) hx hb hts (fun w h => List.mem_cons_of_mem _ (isX40 w h)) hown hK hI.1 7 rfl rfl 5 (by decide) (hts _ (List.mem_cons_of_mem _ mw554)) (fun _ h9 => h9) rfl dX1_read_200 ?_
                      exact cx_iret C hI rfl hF dX1_read_203
                    · have hF := hF.trans (if_neg c_1_9)
                      by_cases c_1_10 : x1 = (16 : Int32)
                      · have hF := hF.trans (if_pos c_1_10)
                        refine lv_tableIn (off := 203) (tgt := 204) hx hb dX1_read_1 (by rw [c_1_10]; decide) (by rw [c_1_10]; decide) (by rw [c_1_10]; rfl) (by decide) ?_
                        refine lv_aload_n hx hb dX1_read_204 rfl (lv_at hl 0 rfl) ?_
                        refine va_get (D := gD g) (ci := 1) (C := RX1) (T := TX1) (N := 5) (v := .ref (gad g 13)) hx hb hts (fun w h => List.mem_cons_of_mem _ (isX10 w h)) hown hK hI.1 12 rfl rfl 2 (by decide) (hts _ (List.mem_cons_of_mem _ mw82)) (fun _ h9 => h9) rfl dX1_read_205 ?_
                        refine va_get (D := gD g) (ci := 9) (C := RX9) (T := TX9) (N := 3) (v := .int (gI st 20)) hx hb hts (fun w h => List.mem_cons_of_mem _ (isX90 w h)) hown hK hI.1 13 rfl rfl 2 (by decide) (hts _ (List.mem_cons_of_mem _ mw555)) (fun _ h9 => h9) rfl dX1_read_208 ?_
                        refine lv_sipush (v := (255 : Int32)) hx hb dX1_read_211 (by decide) ?_
                        refine lv_iand hx hb dX1_read_214 ?_
                        exact cx_iret C hI rfl hF dX1_read_215
                      · have hF := hF.trans (if_neg c_1_10)
                        by_cases c_1_11 : x1 = (17 : Int32)
                        · have hF := hF.trans (if_pos c_1_11)
                          refine lv_tableIn (off := 215) (tgt := 216) hx hb dX1_read_1 (by rw [c_1_11]; decide) (by rw [c_1_11]; decide) (by rw [c_1_11]; rfl) (by decide) ?_
                          refine lv_aload_n hx hb dX1_read_216 rfl (lv_at hl 0 rfl) ?_
                          refine va_get (D := gD g) (ci := 1) (C := RX1) (T := TX1) (N := 5) (v := .ref (gad g 13)) hx hb hts (fun w h => List.mem_cons_of_mem _ (isX10 w h)) hown hK hI.1 12 rfl rfl 2 (by decide) (hts _ (List.mem_cons_of_mem _ mw82)) (fun _ h9 => h9) rfl dX1_read_217 ?_
                          refine va_get (D := gD g) (ci := 9) (C := RX9) (T := TX9) (N := 3) (v := .int (gI st 20)) hx hb hts (fun w h => List.mem_cons_of_mem _ (isX90 w h)) hown hK hI.1 13 rfl rfl 2 (by decide) (hts _ (List.mem_cons_of_mem _ mw555)) (fun _ h9 => h9) rfl dX1_read_220 ?_
                          refine lv_bipush (v := (8 : Int32)) hx hb dX1_read_223 (by decide) ?_
                          refine lv_iushr (v := (ushr (gI st 20) (8 : Int32))) hx hb dX1_read_225 rfl ?_
                          exact cx_iret C hI rfl hF dX1_read_226
                        · have hF := hF.trans (if_neg c_1_11)
                          by_cases c_1_12 : x1 = (20 : Int32)
                          · have hF := hF.trans (if_pos c_1_12)
                            refine lv_tableIn (off := 226) (tgt := 227) hx hb dX1_read_1 (by rw [c_1_12]; decide) (by rw [c_1_12]; decide) (by rw [c_1_12]; rfl) (by decide) ?_
                            refine lv_aload_n hx hb dX1_read_227 rfl (lv_at hl 0 rfl) ?_
                            refine va_get (D := gD g) (ci := 1) (C := RX1) (T := TX1) (N := 5) (v := .ref (gad g 14)) hx hb hts (fun w h => List.mem_cons_of_mem _ (isX10 w h)) hown hK hI.1 12 rfl rfl 3 (by decide) (hts _ (List.mem_cons_of_mem _ mw83)) (fun _ h9 => h9) rfl dX1_read_228 ?_
                            refine va_get (D := gD g) (ci := 9) (C := RX9) (T := TX9) (N := 3) (v := .int (gI st 23)) hx hb hts (fun w h => List.mem_cons_of_mem _ (isX90 w h)) hown hK hI.1 14 rfl rfl 2 (by decide) (hts _ (List.mem_cons_of_mem _ mw555)) (fun _ h9 => h9) rfl dX1_read_231 ?_
                            refine lv_sipush (v := (255 : Int32)) hx hb dX1_read_234 (by decide) ?_
                            refine lv_iand hx hb dX1_read_237 ?_
                            exact cx_iret C hI rfl hF dX1_read_238
                          · have hF := hF.trans (if_neg c_1_12)
                            by_cases c_1_13 : x1 = (21 : Int32)
                            · have hF := hF.trans (if_pos c_1_13)
                              refine lv_tableIn (off := 238) (tgt := 239) hx hb dX1_read_1 (by rw [c_1_13]; decide) (by rw [c_1_13]; decide) (by rw [c_1_13]; rfl) (by decide) ?_
                              refine lv_aload_n hx hb dX1_read_239 rfl (lv_at hl 0 rfl) ?_
                              refine va_get (D := gD g) (ci := 1) (C := RX1) (T := TX1) (N := 5) (v := .ref (gad g 14)) hx hb hts (fun w h => List.mem_cons_of_mem _ (isX10 w h)) hown hK hI.1 12 rfl rfl 3 (by decide) (hts _ (List.mem_cons_of_mem _ mw83)) (fun _ h9 => h9) rfl dX1_read_240 ?_
                              refine va_get (D := gD g) (ci := 9) (C := RX9) (T := TX9) (N := 3) (v := .int (gI st 23)) hx hb hts (fun w h => List.mem_cons_of_mem _ (isX90 w h)) hown hK hI.1 14 rfl rfl 2 (by decide) (hts _ (List.mem_cons_of_mem _ mw555)) (fun _ h9 => h9) rfl dX1_read_243 ?_
                              refine lv_bipush (v := (8 : Int32)) hx hb dX1_read_246 (by decide) ?_
                              refine lv_iushr (v := (ushr (gI st 23) (8 : Int32))) hx hb dX1_read_248 rfl ?_
                              exact cx_iret C hI rfl hF dX1_read_249
                            · have hF := hF.trans (if_neg c_1_13)
                              by_cases cg_1_2 : x1 = (2 : Int32)
                              · refine lv_tableIn (off := 249) (tgt := 250) hx hb dX1_read_1 (by rw [cg_1_2]; decide) (by rw [cg_1_2]; decide) (by rw [cg_1_2]; rfl) (by decide) ?_
                                refine lv_iconst (v := (0 : Int32)) hx hb dX1_read_250 (by decide) ?_
                                exact cx_iret C hI rfl hF dX1_read_251
                              by_cases cg_1_3 : x1 = (3 : Int32)
                              · refine lv_tableIn (off := 249) (tgt := 250) hx hb dX1_read_1 (by rw [cg_1_3]; decide) (by rw [cg_1_3]; decide) (by rw [cg_1_3]; rfl) (by decide) ?_
                                refine lv_iconst (v := (0 : Int32)) hx hb dX1_read_250 (by decide) ?_
                                exact cx_iret C hI rfl hF dX1_read_251
                              by_cases cg_1_7 : x1 = (7 : Int32)
                              · refine lv_tableIn (off := 249) (tgt := 250) hx hb dX1_read_1 (by rw [cg_1_7]; decide) (by rw [cg_1_7]; decide) (by rw [cg_1_7]; rfl) (by decide) ?_
                                refine lv_iconst (v := (0 : Int32)) hx hb dX1_read_250 (by decide) ?_
                                exact cx_iret C hI rfl hF dX1_read_251
                              by_cases cg_1_11 : x1 = (11 : Int32)
                              · refine lv_tableIn (off := 249) (tgt := 250) hx hb dX1_read_1 (by rw [cg_1_11]; decide) (by rw [cg_1_11]; decide) (by rw [cg_1_11]; rfl) (by decide) ?_
                                refine lv_iconst (v := (0 : Int32)) hx hb dX1_read_250 (by decide) ?_
                                exact cx_iret C hI rfl hF dX1_read_251
                              by_cases cg_1_15 : x1 = (15 : Int32)
                              · refine lv_tableIn (off := 249) (tgt := 250) hx hb dX1_read_1 (by rw [cg_1_15]; decide) (by rw [cg_1_15]; decide) (by rw [cg_1_15]; rfl) (by decide) ?_
                                refine lv_iconst (v := (0 : Int32)) hx hb dX1_read_250 (by decide) ?_
                                exact cx_iret C hI rfl hF dX1_read_251
                              by_cases cg_1_18 : x1 = (18 : Int32)
                              · refine lv_tableIn (off := 249) (tgt := 250) hx hb dX1_read_1 (by rw [cg_1_18]; decide) (by rw [cg_1_18]; decide) (by rw [cg_1_18]; rfl) (by decide) ?_
                                refine lv_iconst (v := (0 : Int32)) hx hb dX1_read_250 (by decide) ?_
                                exact cx_iret C hI rfl hF dX1_read_251
                              by_cases cg_1_19 : x1 = (19 : Int32)
                              · refine lv_tableIn (off := 249) (tgt := 250) hx hb dX1_read_1 (by rw [cg_1_19]; decide) (by rw [cg_1_19]; decide) (by rw [cg_1_19]; rfl) (by decide) ?_
                                refine lv_iconst (v := (0 : Int32)) hx hb dX1_read_250 (by decide) ?_
                                exact cx_iret C hI rfl hF dX1_read_251
                              refine lv_tableOut (tgt := 250) hx hb dX1_read_1 (by have h0 := lv_neT (a := 1) c_1_0 (by decide); have h1 := lv_neT (a := 4) c_1_1 (by decide); have h2 := lv_neT (a := 5) c_1_2 (by decide); have h3 := lv_neT (a := 6) c_1_3 (by decide); have h4 := lv_neT (a := 8) c_1_4 (by decide); have h5 := lv_neT (a := 9) c_1_5 (by decide); have h6 := lv_neT (a := 10) c_1_6 (by decide); have h7 := lv_neT (a := 12) c_1_7 (by decide); have h8 := lv_neT (a := 13) c_1_8 (by decide); have h9 := lv_neT (a := 14) c_1_9 (by decide); have h10 := lv_neT (a := 16) c_1_10 (by decide); have h11 := lv_neT (a := 17) c_1_11 (by decide); have h12 := lv_neT (a := 20) c_1_12 (by decide); have h13 := lv_neT (a := 21) c_1_13 (by decide); have g0 := lv_neT (a := 2) cg_1_2 (by decide); have g1 := lv_neT (a := 3) cg_1_3 (by decide); have g2 := lv_neT (a := 7) cg_1_7 (by decide); have g3 := lv_neT (a := 11) cg_1_11 (by decide); have g4 := lv_neT (a := 15) cg_1_15 (by decide); have g5 := lv_neT (a := 18) cg_1_18 (by decide); have g6 := lv_neT (a := 19) cg_1_19 (by decide); omega) (by decide) ?_
                              refine lv_iconst (v := (0 : Int32)) hx hb dX1_read_250 (by decide) ?_
                              exact cx_iret C hI rfl hF dX1_read_251
set_option maxHeartbeats 4000000 in
set_option maxRecDepth 100000 in
theorem c_cController_read (l : Launch) (g : Gm) (st : CS) (x1 : Int32) : Mi l yX1_read wq_X1_read rm_cController_read (gD g) vwCl (cty g) (cw g) (cz g) [.ref (gad g 12), .int x1] st st (cController_read st x1) := by
  intro sz
  refine Met.ofW (cc := cX1_read) (maxL := 2) (ret := (some .int)) (by decide) rfl ?_
  intro p e s m args below meth c s₁ B hml hv
  obtain ⟨rfl, hsz, hP, hK, hD0, hZ⟩ := hv
  subst hsz
  have hl := lv_entry ([.ref (gad g 12), .int x1]) (n := 2) (Nat.le_of_ble_eq_true rfl)
  rw [lg_entry_eq]
  generalize (lg_sl ([.ref (gad g 12), .int x1]) ++ List.replicate (2 - (lg_sl ([.ref (gad g 12), .int x1])).length) Slot.unset).toArray = ls at hl ⊢
  exact k_cController_read g ⟨B.exec, B.bytes, B.returns, hml, findClass_of_methodNamed B.named, atoms_spec (ws := wq_X1_read) B.pre, B.notSynchronized, hK, fun q h => Or.inr h, hZ, cz_ok g⟩ st x1 _ _ ls ⟨hP, hD0.self, va_S.rf⟩ hl _ rfl
abbrev wq_X1_isRead : List Cond := .code yX1_isRead cX1_isRead 2 none :: wAll
theorem yd_yX1_isRead : yX1_isRead.cls = RX1 ∧ yX1_isRead.cls ≠ "java/lang/invoke/MethodHandle" ∧ yX1_isRead.cls ≠ "java/lang/invoke/VarHandle" ∧ (parseMethodDescriptor yX1_isRead.desc).map (fun d => d.parameters.length) = some 1 := by decide +kernel
abbrev rm_cController_isRead : Room := { frames := 1, cells := 0, slots := 0, locals := 20 }
def cController_isRead (st : CS) (x1 : Int32) : CS := (if (x1 = (1 : Int32)) then (cSerial_isRead st) else st)
set_option maxHeartbeats 4000000 in
set_option maxRecDepth 100000 in
theorem k_cController_isRead {p : Program} {l : Launch} {e : Env} {s : State} {m : MethodId} {args : Array Value} {below : List Frame} {meth : Method} {c : Code} {A : Nat → Prop} (g : Gm) (C : cX p s m args meth c A cX1_isRead none 2 RX1 wq_X1_isRead (gD g) vwCl (cty g) (cz g)) (st : CS) (x1 : Int32) (H : Heap) (locs : List Loc) (ls : Array Slot) (hI : cI (gD g) vwCl (cw g) A s st H locs) (hl : lv_has ls 2 [(0, .ref (gad g 12)), (1, .int x1)]) (X : CS) (hF : X = cController_isRead st x1) : W p l e rm_cController_isRead s m args below meth c H locs 0 0 (MQ below (cQv (gD g) vwCl (cty g) (cw g) A X) args s 0 0 A) (F0 m 0 ls []) := by
  obtain ⟨hx, hb, hr, hml, hown, hts, hlocks, hK, hA, hZ, hzo⟩ := id C
  unfold cController_isRead at hF
  refine lv_iload_n hx hb dX1_isRead_0 rfl (lv_at hl 1 rfl) ?_
  refine lv_iconst (v := (1 : Int32)) hx hb dX1_isRead_1 (by decide) ?_
  refine lv_icmp_ne (tgt := 12) hx hb dX1_isRead_2 (by decide) (fun c_2 => ?_) (fun c_2 => ?_)
  · have hF := hF.trans (if_neg c_2)
    exact cx_vret C hI hF dX1_isRead_12
  · have hF := hF.trans (if_pos c_2)
    refine lv_aload_n hx hb dX1_isRead_5 rfl (lv_at hl 0 rfl) ?_
    refine va_get (D := gD g) (ci := 1) (C := RX1) (T := TX1) (N := 5) (v := .ref (gad g 8)) hx hb hts (fun w h => List.mem_cons_of_mem _ (isX10 w h)) hown hK hI.1 12 rfl rfl 1 (by decide) (hts _ (List.mem_cons_of_mem _ mw85)) (fun _ h9 => h9) rfl dX1_isRead_6 ?_
    refine cx_Vv (As := []) (rest := []) C (c_cSerial_isRead l g st ) (cwV 0 hts (gd_V _ mw567 mw568 mw569 mw26 mw570) rfl rfl rfl yd_yX8_isRead ⟨Nat.le_of_ble_eq_true rfl, Nat.le_of_ble_eq_true rfl⟩) (va_recv hK hI.1 (ci := 8) (q0 := 8) rfl rfl) hI rfl hl.1 rfl (Nat.le_of_ble_eq_true rfl) dX1_isRead_9 (fun H locs hI => ?_)
    exact cx_vret C hI hF dX1_isRead_12
set_option maxHeartbeats 4000000 in
set_option maxRecDepth 100000 in
theorem c_cController_isRead (l : Launch) (g : Gm) (st : CS) (x1 : Int32) : Mv l yX1_isRead wq_X1_isRead rm_cController_isRead (gD g) vwCl (cty g) (cw g) (cz g) [.ref (gad g 12), .int x1] st (cController_isRead st x1) := by
  intro sz
  refine Met.ofW (cc := cX1_isRead) (maxL := 2) (ret := none) (by decide) rfl ?_
  intro p e s m args below meth c s₁ B hml hv
  obtain ⟨rfl, hsz, hP, hK, hD0, hZ⟩ := hv
  subst hsz
  have hl := lv_entry ([.ref (gad g 12), .int x1]) (n := 2) (Nat.le_of_ble_eq_true rfl)
  rw [lg_entry_eq]
  generalize (lg_sl ([.ref (gad g 12), .int x1]) ++ List.replicate (2 - (lg_sl ([.ref (gad g 12), .int x1])).length) Slot.unset).toArray = ls at hl ⊢
  exact k_cController_isRead g ⟨B.exec, B.bytes, B.returns, hml, findClass_of_methodNamed B.named, atoms_spec (ws := wq_X1_isRead) B.pre, B.notSynchronized, hK, fun q h => Or.inr h, hZ, cz_ok g⟩ st x1 _ _ ls ⟨hP, hD0.self, va_S.rf⟩ hl _ rfl
abbrev wq_X1_write : List Cond := .code yX1_write cX1_write 3 none :: wAll
theorem yd_yX1_write : yX1_write.cls = RX1 ∧ yX1_write.cls ≠ "java/lang/invoke/MethodHandle" ∧ yX1_write.cls ≠ "java/lang/invoke/VarHandle" ∧ (parseMethodDescriptor yX1_write.desc).map (fun d => d.parameters.length) = some 2 := by decide +kernel
abbrev rm_cController_write : Room := { frames := 1, cells := 0, slots := 0, locals := 22 }
def cController_write_b116 (st : CS) : CS := st
set_option maxHeartbeats 4000000 in
set_option maxRecDepth 100000 in
theorem k_cController_write_b116 {p : Program} {l : Launch} {e : Env} {s : State} {m : MethodId} {args : Array Value} {below : List Frame} {meth : Method} {c : Code} {A : Nat → Prop} (g : Gm) (C : cX p s m args meth c A cX1_write none 3 RX1 wq_X1_write (gD g) vwCl (cty g) (cz g)) (st : CS) (H : Heap) (locs : List Loc) (ls : Array Slot) (hI : cI (gD g) vwCl (cw g) A s st H locs) (hl : lv_has ls 3 [(0, .ref (gad g 12))]) (X : CS) (hF : X = cController_write_b116 st ) : W p l e rm_cController_write s m args below meth c H locs 0 0 (MQ below (cQv (gD g) vwCl (cty g) (cw g) A X) args s 0 0 A) (F0 m 116 ls []) := by
  obtain ⟨hx, hb, hr, hml, hown, hts, hlocks, hK, hA, hZ, hzo⟩ := id C
  unfold cController_write_b116 at hF
  refine lv_goto (tgt := 203) hx hb dX1_write_116 (by decide) ?_
  exact cx_vret C hI hF dX1_write_203
def cController_write_b185 (st : CS) : CS := st
set_option maxHeartbeats 4000000 in
set_option maxRecDepth 100000 in
theorem k_cController_write_b185 {p : Program} {l : Launch} {e : Env} {s : State} {m : MethodId} {args : Array Value} {below : List Frame} {meth : Method} {c : Code} {A : Nat → Prop} (g : Gm) (C : cX p s m args meth c A cX1_write none 3 RX1 wq_X1_write (gD g) vwCl (cty g) (cz g)) (st : CS) (H : Heap) (locs : List Loc) (ls : Array Slot) (hI : cI (gD g) vwCl (cw g) A s st H locs) (hl : lv_has ls 3 [(0, .ref (gad g 12))]) (X : CS) (hF : X = cController_write_b185 st ) : W p l e rm_cController_write s m args below meth c H locs 0 0 (MQ below (cQv (gD g) vwCl (cty g) (cw g) A X) args s 0 0 A) (F0 m 185 ls []) := by
  obtain ⟨hx, hb, hr, hml, hown, hts, hlocks, hK, hA, hZ, hzo⟩ := id C
  unfold cController_write_b185 at hF
  refine lv_goto (tgt := 203) hx hb dX1_write_185 (by decide) ?_
  exact cx_vret C hI hF dX1_write_203
def cController_write_b173 (st : CS) (x1 : Int32) (x2 : Int32) : CS := (cController_write_b185 (cTimer_write0 st (x1 - (16 : Int32)) x2) )
set_option maxHeartbeats 4000000 in
set_option maxRecDepth 100000 in
theorem k_cController_write_b173 {p : Program} {l : Launch} {e : Env} {s : State} {m : MethodId} {args : Array Value} {below : List Frame} {meth : Method} {c : Code} {A : Nat → Prop} (g : Gm) (C : cX p s m args meth c A cX1_write none 3 RX1 wq_X1_write (gD g) vwCl (cty g) (cz g)) (st : CS) (x1 : Int32) (x2 : Int32) (H : Heap) (locs : List Loc) (ls : Array Slot) (hI : cI (gD g) vwCl (cw g) A s st H locs) (hl : lv_has ls 3 [(0, .ref (gad g 12)), (1, .int x1), (2, .int x2)]) (X : CS) (hF : X = cController_write_b173 st x1 x2) : W p l e rm_cController_write s m args below meth c H locs 0 0 (MQ below (cQv (gD g) vwCl (cty g) (cw g) A X) args s 0 0 A) (F0 m 173 ls []) := by
  obtain ⟨hx, hb, hr, hml, hown, hts, hlocks, hK, hA, hZ, hzo⟩ := id C
  unfold cController_write_b173 at hF
  refine lv_aload_n hx hb dX1_write_173 rfl (lv_at hl 0 rfl) ?_
  refine va_get (D := gD g) (ci := 1) (C := RX1) (T := TX1) (N := 5) (v := .ref (gad g 13)) hx hb hts (fun w h => List.mem_cons_of_mem _ (isX10 w h)) hown hK hI.1 12 rfl rfl 2 (by decide) (hts _ (List.mem_cons_of_mem _ mw82)) (fun _ h9 => h9) rfl dX1_write_174 ?_
  refine lv_iload_n hx hb dX1_write_177 rfl (lv_at hl 1 rfl) ?_
  refine lv_bipush (v := (16 : Int32)) hx hb dX1_write_178 (by decide) ?_
  refine lv_isub hx hb dX1_write_180 ?_
  refine lv_iload_n hx hb dX1_write_181 rfl (lv_at hl 2 rfl) ?_
  refine cx_Vv (As := [.int (x1 - (16 : Int32)), .int x2]) (rest := []) C (c_cTimer_write0 l g st (x1 - (16 : Int32)) x2) (cwV 2 hts (gd_V _ mw620 mw621 mw622 mw81 mw623) rfl rfl rfl yd_yX9_write ⟨Nat.le_of_ble_eq_true rfl, Nat.le_of_ble_eq_true rfl⟩) (va_recv hK hI.1 (ci := 9) (q0 := 13) rfl rfl) hI rfl hl.1 rfl (Nat.le_of_ble_eq_true rfl) dX1_write_182 (fun H locs hI => ?_)
  exact k_cController_write_b185 g C (cTimer_write0 st (x1 - (16 : Int32)) x2)  H locs ls hI (lv_sub hl [0] rfl) X hF
def cController_write_b200 (st : CS) : CS := st
set_option maxHeartbeats 4000000 in
set_option maxRecDepth 100000 in
theorem k_cController_write_b200 {p : Program} {l : Launch} {e : Env} {s : State} {m : MethodId} {args : Array Value} {below : List Frame} {meth : Method} {c : Code} {A : Nat → Prop} (g : Gm) (C : cX p s m args meth c A cX1_write none 3 RX1 wq_X1_write (gD g) vwCl (cty g) (cz g)) (st : CS) (H : Heap) (locs : List Loc) (ls : Array Slot) (hI : cI (gD g) vwCl (cw g) A s st H locs) (hl : lv_has ls 3 [(0, .ref (gad g 12))]) (X : CS) (hF : X = cController_write_b200 st ) : W p l e rm_cController_write s m args below meth c H locs 0 0 (MQ below (cQv (gD g) vwCl (cty g) (cw g) A X) args s 0 0 A) (F0 m 200 ls []) := by
  obtain ⟨hx, hb, hr, hml, hown, hts, hlocks, hK, hA, hZ, hzo⟩ := id C
  unfold cController_write_b200 at hF
  refine lv_goto (tgt := 203) hx hb dX1_write_200 (by decide) ?_
  exact cx_vret C hI hF dX1_write_203
def cController_write_b188 (st : CS) (x1 : Int32) (x2 : Int32) : CS := (cController_write_b200 (cTimer_write1 st (x1 - (20 : Int32)) x2) )
set_option maxHeartbeats 4000000 in
set_option maxRecDepth 100000 in
theorem k_cController_write_b188 {p : Program} {l : Launch} {e : Env} {s : State} {m : MethodId} {args : Array Value} {below : List Frame} {meth : Method} {c : Code} {A : Nat → Prop} (g : Gm) (C : cX p s m args meth c A cX1_write none 3 RX1 wq_X1_write (gD g) vwCl (cty g) (cz g)) (st : CS) (x1 : Int32) (x2 : Int32) (H : Heap) (locs : List Loc) (ls : Array Slot) (hI : cI (gD g) vwCl (cw g) A s st H locs) (hl : lv_has ls 3 [(0, .ref (gad g 12)), (1, .int x1), (2, .int x2)]) (X : CS) (hF : X = cController_write_b188 st x1 x2) : W p l e rm_cController_write s m args below meth c H locs 0 0 (MQ below (cQv (gD g) vwCl (cty g) (cw g) A X) args s 0 0 A) (F0 m 188 ls []) := by
  obtain ⟨hx, hb, hr, hml, hown, hts, hlocks, hK, hA, hZ, hzo⟩ := id C
  unfold cController_write_b188 at hF
  refine lv_aload_n hx hb dX1_write_188 rfl (lv_at hl 0 rfl) ?_
  refine va_get (D := gD g) (ci := 1) (C := RX1) (T := TX1) (N := 5) (v := .ref (gad g 14)) hx hb hts (fun w h => List.mem_cons_of_mem _ (isX10 w h)) hown hK hI.1 12 rfl rfl 3 (by decide) (hts _ (List.mem_cons_of_mem _ mw83)) (fun _ h9 => h9) rfl dX1_write_189 ?_
  refine lv_iload_n hx hb dX1_write_192 rfl (lv_at hl 1 rfl) ?_
  refine lv_bipush (v := (20 : Int32)) hx hb dX1_write_193 (by decide) ?_
  refine lv_isub hx hb dX1_write_195 ?_
  refine lv_iload_n hx hb dX1_write_196 rfl (lv_at hl 2 rfl) ?_
  refine cx_Vv (As := [.int (x1 - (20 : Int32)), .int x2]) (rest := []) C (c_cTimer_write1 l g st (x1 - (20 : Int32)) x2) (cwV 2 hts (gd_V _ mw620 mw621 mw622 mw81 mw623) rfl rfl rfl yd_yX9_write ⟨Nat.le_of_ble_eq_true rfl, Nat.le_of_ble_eq_true rfl⟩) (va_recv hK hI.1 (ci := 9) (q0 := 14) rfl rfl) hI rfl hl.1 rfl (Nat.le_of_ble_eq_true rfl) dX1_write_197 (fun H locs hI => ?_)
  exact k_cController_write_b200 g C (cTimer_write1 st (x1 - (20 : Int32)) x2)  H locs ls hI (lv_sub hl [0] rfl) X hF
def cController_write (st : CS) (x1 : Int32) (x2 : Int32) : CS := (if x1 = (1 : Int32) then (cController_write_b116 (cSerial_send st x2) ) else (if x1 = (5 : Int32) then (sI st 2 ((gI st 2) &&& ((x2 &&& (104 : Int32)) ^^^ (-1 : Int32)))) else (if x1 = (6 : Int32) then (sI st 5 x2) else (if x1 = (10 : Int32) then (sI st 6 x2) else (if x1 = (14 : Int32) then (sI st 7 x2) else (if x1 = (16 : Int32) then (cController_write_b173 st x1 x2) else (if x1 = (17 : Int32) then (cController_write_b173 st x1 x2) else (if x1 = (18 : Int32) then (cController_write_b173 st x1 x2) else (if x1 = (19 : Int32) then (cController_write_b173 st x1 x2) else (if x1 = (20 : Int32) then (cController_write_b188 st x1 x2) else (if x1 = (21 : Int32) then (cController_write_b188 st x1 x2) else (if x1 = (22 : Int32) then (cController_write_b188 st x1 x2) else (if x1 = (23 : Int32) then (cController_write_b188 st x1 x2) else st)))))))))))))
set_option maxHeartbeats 4000000 in
set_option maxRecDepth 100000 in
theorem k_cController_write {p : Program} {l : Launch} {e : Env} {s : State} {m : MethodId} {args : Array Value} {below : List Frame} {meth : Method} {c : Code} {A : Nat → Prop} (g : Gm) (C : cX p s m args meth c A cX1_write none 3 RX1 wq_X1_write (gD g) vwCl (cty g) (cz g)) (st : CS) (x1 : Int32) (x2 : Int32) (H : Heap) (locs : List Loc) (ls : Array Slot) (hI : cI (gD g) vwCl (cw g) A s st H locs) (hl : lv_has ls 3 [(0, .ref (gad g 12)), (1, .int x1), (2, .int x2)]) (X : CS) (hF : X = cController_write st x1 x2) : W p l e rm_cController_write s m args below meth c H locs 0 0 (MQ below (cQv (gD g) vwCl (cty g) (cw g) A X) args s 0 0 A) (F0 m 0 ls []) := by
  obtain ⟨hx, hb, hr, hml, hown, hts, hlocks, hK, hA, hZ, hzo⟩ := id C
  unfold cController_write at hF
  refine lv_iload_n hx hb dX1_write_0 rfl (lv_at hl 1 rfl) ?_
  by_cases c_1_0 : x1 = (1 : Int32)
  · have hF := hF.trans (if_pos c_1_0)
    refine lv_tableIn (off := 107) (tgt := 108) hx hb dX1_write_1 (by rw [c_1_0]; decide) (by rw [c_1_0]; decide) (by rw [c_1_0]; rfl) (by decide) ?_
    refine lv_aload_n hx hb dX1_write_108 rfl (lv_at hl 0 rfl) ?_
    refine va_get (D := gD g) (ci := 1) (C := RX1) (T := TX1) (N := 5) (v := .ref (gad g 8)) hx hb hts (fun w h => List.mem_cons_of_mem _ (isX10 w h)) hown hK hI.1 12 rfl rfl 1 (by decide) (hts _ (List.mem_cons_of_mem _ mw85)) (fun _ h9 => h9) rfl dX1_write_109 ?_
    refine lv_iload_n hx hb dX1_write_112 rfl (lv_at hl 2 rfl) ?_
    refine cx_Vv (As := [.int x2]) (rest := []) C (c_cSerial_send l g st x2) (cwV 1 hts (gd_V _ mw615 mw616 mw617 mw26 mw618) rfl rfl rfl yd_yX8_send ⟨Nat.le_of_ble_eq_true rfl, Nat.le_of_ble_eq_true rfl⟩) (va_recv hK hI.1 (ci := 8) (q0 := 8) rfl rfl) hI rfl hl.1 rfl (Nat.le_of_ble_eq_true rfl) dX1_write_113 (fun H locs hI => ?_)
    exact k_cController_write_b116 g C (cSerial_send st x2)  H locs ls hI (lv_sub hl [0] rfl) X hF
  · have hF := hF.trans (if_neg c_1_0)
    by_cases c_1_1 : x1 = (5 : Int32)
    · have hF := hF.trans (if_pos c_1_1)
      refine lv_tableIn (off := 118) (tgt := 119) hx hb dX1_write_1 (by rw [c_1_1]; decide) (by rw [c_1_1]; decide) (by rw [c_1_1]; rfl) (by decide) ?_
      refine lv_aload_n hx hb dX1_write_119 rfl (lv_at hl 0 rfl) ?_
      refine va_get (D := gD g) (ci := 1) (C := RX1) (T := TX1) (N := 5) (v := .ref (gad g 7)) hx hb hts (fun w h => List.mem_cons_of_mem _ (isX10 w h)) hown hK hI.1 12 rfl rfl 0 (by decide) (hts _ (List.mem_cons_of_mem _ mw84)) (fun _ h9 => h9) rfl dX1_write_120 ?_
      refine lv_dup hx hb dX1_write_123 rfl ?_
      refine va_get (D := gD g) (ci := 4) (C := RX4) (T := TX4) (N := 6) (v := .int (gI st 2)) hx hb hts (fun w h => List.mem_cons_of_mem _ (isX40 w h)) hown hK hI.1 7 rfl rfl 0 (by decide) (hts _ (List.mem_cons_of_mem _ mw549)) (fun _ h9 => h9) rfl dX1_write_124 ?_
      refine lv_iload_n hx hb dX1_write_127 rfl (lv_at hl 2 rfl) ?_
      refine lv_bipush (v := (104 : Int32)) hx hb dX1_write_128 (by decide) ?_
      refine lv_iand hx hb dX1_write_130 ?_
      refine lv_iconst (v := (-1 : Int32)) hx hb dX1_write_131 (by decide) ?_
      refine lv_ixor hx hb dX1_write_132 ?_
      refine lv_iand hx hb dX1_write_133 ?_
      refine va_put (D := gD g) (ci := 4) (C := RX4) (T := TX4) (N := 6) (v := .int ((gI st 2) &&& ((x2 &&& (104 : Int32)) ^^^ (-1 : Int32)))) (ty := .int) hx hb hts (fun w h => List.mem_cons_of_mem _ (isX40 w h)) tyX4 tyX4_ok nmX4 hown hK hI.1 hI.2.1 hI.2.2 7 rfl rfl 0 (by decide) (hts _ (List.mem_cons_of_mem _ mw549)) (fun _ h9 => h9) rfl (by decide +kernel) rfl rfl (Nat.le_of_ble_eq_true rfl) dX1_write_134 (fun H locs hP hD hS => ?_)
      have hI : cI (gD g) vwCl (cw g) A s (sI st 2 ((gI st 2) &&& ((x2 &&& (104 : Int32)) ^^^ (-1 : Int32)))) H locs := ⟨hP, hD, hS⟩
      refine lv_goto (tgt := 203) hx hb dX1_write_137 (by decide) ?_
      exact cx_vret C hI hF dX1_write_203
    · have hF := hF.trans (if_neg c_1_1)
      by_cases c_1_2 : x1 = (6 : Int32)
      · have hF := hF.trans (if_pos c_1_2)
        refine lv_tableIn (off := 139) (tgt := 140) hx hb dX1_write_1 (by rw [c_1_2]; decide) (by rw [c_1_2]; decide) (by rw [c_1_2]; rfl) (by decide) ?_
        refine lv_aload_n hx hb dX1_write_140 rfl (lv_at hl 0 rfl) ?_
        refine va_get (D := gD g) (ci := 1) (C := RX1) (T := TX1) (N := 5) (v := .ref (gad g 7)) hx hb hts (fun w h => List.mem_cons_of_mem _ (isX10 w h)) hown hK hI.1 12 rfl rfl 0 (by decide) (hts _ (List.mem_cons_of_mem _ mw84)) (fun _ h9 => h9) rfl dX1_write_141 ?_
        refine lv_iload_n hx hb dX1_write_144 rfl (lv_at hl 2 rfl) ?_
        refine va_put (D := gD g) (ci := 4) (C := RX4) (T := TX4) (N := 6) (v := .int x2) (ty := .int) hx hb hts (fun w h => List.mem_cons_of_mem _ (isX40 w h)) tyX4 tyX4_ok nmX4 hown hK hI.1 hI.2.1 hI.2.2 7 rfl rfl 3 (by decide) (hts _ (List.mem_cons_of_mem _ mw550)) (fun _ h9 => h9) rfl (by decide +kernel) rfl rfl (Nat.le_of_ble_eq_true rfl) dX1_write_145 (fun H locs hP hD hS => ?_)
        have hI : cI (gD g) vwCl (cw g) A s (sI st 5 x2) H locs := ⟨hP, hD, hS⟩
        refine lv_goto (tgt := 203) hx hb dX1_write_148 (by decide) ?_
        exact cx_vret C hI hF dX1_write_203
      · have hF := hF.trans (if_neg c_1_2)
        by_cases c_1_3 : x1 = (10 : Int32)
        · have hF := hF.trans (if_pos c_1_3)
          refine lv_tableIn (off := 150) (tgt := 151) hx hb dX1_write_1 (by rw [c_1_3]; decide) (by rw [c_1_3]; decide) (by rw [c_1_3]; rfl) (by decide) ?_
          refine lv_aload_n hx hb dX1_write_151 rfl (lv_at hl 0 rfl) ?_
          refine va_get (D := gD g) (ci := 1) (C := RX1) (T := TX1) (N := 5) (v := .ref (gad g 7)) hx hb hts (fun w h => List.mem_cons_of_mem _ (isX10 w h)) hown hK hI.1 12 rfl rfl 0 (by decide) (hts _ (List.mem_cons_of_mem _ mw84)) (fun _ h9 => h9) rfl dX1_write_152 ?_
          refine lv_iload_n hx hb dX1_write_155 rfl (lv_at hl 2 rfl) ?_
          refine va_put (D := gD g) (ci := 4) (C := RX4) (T := TX4) (N := 6) (v := .int x2) (ty := .int) hx hb hts (fun w h => List.mem_cons_of_mem _ (isX40 w h)) tyX4 tyX4_ok nmX4 hown hK hI.1 hI.2.1 hI.2.2 7 rfl rfl 4 (by decide) (hts _ (List.mem_cons_of_mem _ mw552)) (fun _ h9 => h9) rfl (by decide +kernel) rfl rfl (Nat.le_of_ble_eq_true rfl) dX1_write_156 (fun H locs hP hD hS => ?_)
          have hI : cI (gD g) vwCl (cw g) A s (sI st 6 x2) H locs := ⟨hP, hD, hS⟩
          refine lv_goto (tgt := 203) hx hb dX1_write_159 (by decide) ?_
          exact cx_vret C hI hF dX1_write_203
        · have hF := hF.trans (if_neg c_1_3)
          by_cases c_1_4 : x1 = (14 : Int32)
          · have hF := hF.trans (if_pos c_1_4)
            refine lv_tableIn (off := 161) (tgt := 162) hx hb dX1_write_1 (by rw [c_1_4]; decide) (by rw [c_1_4]; decide) (by rw [c_1_4]; rfl) (by decide) ?_
            refine lv_aload_n hx hb dX1_write_162 rfl (lv_at hl 0 rfl) ?_
            refine va_get (D := gD g) (ci := 1) (C := RX1) (T := TX1) (N := 5) (v := .ref (gad g 7)) hx hb hts (fun w h => List.mem_cons_of_mem _ (isX10 w h)) hown hK hI.1 12 rfl rfl 0 (by decide) (hts _ (List.mem_cons_of_mem _ mw84)) (fun _ h9 => h9) rfl dX1_write_163 ?_
            refine lv_iload_n hx hb dX1_write_166 rfl (lv_at hl 2 rfl) ?_
            refine va_put (D := gD g) (ci := 4) (C := RX4) (T := TX4) (N := 6) (v := .int x2) (ty := .int) hx hb hts (fun w h => List.mem_cons_of_mem _ (isX40 w h)) tyX4 tyX4_ok nmX4 hown hK hI.1 hI.2.1 hI.2.2 7 rfl rfl 5 (by decide) (hts _ (List.mem_cons_of_mem _ mw554)) (fun _ h9 => h9) rfl (by decide +kernel) rfl rfl (Nat.le_of_ble_eq_true rfl) dX1_write_167 (fun H locs hP hD hS => ?_)
            have hI : cI (gD g) vwCl (cw g) A s (sI st 7 x2) H locs := ⟨hP, hD, hS⟩
            refine lv_goto (tgt := 203) hx hb dX1_write_170 (by decide) ?_
            exact cx_vret C hI hF dX1_write_203
          · have hF := hF.trans (if_neg c_1_4)
            by_cases c_1_5 : x1 = (16 : Int32)
            · have hF := hF.trans (if_pos c_1_5)
              refine lv_tableIn (off := 172) (tgt := 173) hx hb dX1_write_1 (by rw [c_1_5]; decide) (by rw [c_1_5]; decide) (by rw [c_1_5]; rfl) (by decide) ?_
              exact k_cController_write_b173 g C st x1 x2 H locs ls hI (lv_sub hl [0, 1, 2] rfl) X hF
            · have hF := hF.trans (if_neg c_1_5)
              by_cases c_1_6 : x1 = (17 : Int32)
              · have hF := hF.trans (if_pos c_1_6)
                refine lv_tableIn (off := 172) (tgt := 173) hx hb dX1_write_1 (by rw [c_1_6]; decide) (by rw [c_1_6]; decide) (by rw [c_1_6]; rfl) (by decide) ?_
                exact k_cController_write_b173 g C st x1 x2 H locs ls hI (lv_sub hl [0, 1, 2] rfl) X hF
              · have hF := hF.trans (if_neg c_1_6)
                by_cases c_1_7 : x1 = (18 : Int32)
                · have hF := hF.trans (if_pos c_1_7)
                  refine lv_tableIn (off := 172) (tgt := 173) hx hb dX1_write_1 (by rw [c_1_7]; decide) (by rw [c_1_7]; decide) (by rw [c_1_7]; rfl) (by decide) ?_
                  exact k_cController_write_b173 g C st x1 x2 H locs ls hI (lv_sub hl [0, 1, 2] rfl) X hF
                · have hF := hF.trans (if_neg c_1_7)
                  by_cases c_1_8 : x1 = (19 : Int32)
                  · have hF := hF.trans (if_pos c_1_8)
                    refine lv_tableIn (off := 172) (tgt := 173) hx hb dX1_write_1 (by rw [c_1_8]; decide) (by rw [c_1_8]; decide) (by rw [c_1_8]; rfl) (by decide) ?_
                    exact k_cController_write_b173 g C st x1 x2 H locs ls hI (lv_sub hl [0, 1, 2] rfl) X hF
                  · have hF := hF.trans (if_neg c_1_8)
                    by_cases c_1_9 : x1 = (20 : Int32)
                    · have hF := hF.trans (if_pos c_1_9)
                      refine lv_tableIn (off := 187) (tgt := 188) hx hb dX1_write_1 (by rw [c_1_9]; decide) (by rw [c_1_9]; decide) (by rw [c_1_9]; rfl) (by decide) ?_
                      exact k_cController_write_b188 g C st x1 x2 H locs ls hI (lv_sub hl [0, 1, 2] rfl) X hF
                    · have hF := hF.trans (if_neg c_1_9)
                      by_cases c_1_10 : x1 = (21 : Int32)
                      · have hF := hF.trans (if_pos c_1_10)
                        refine lv_tableIn (off := 187) (tgt := 188) hx hb dX1_write_1 (by rw [c_1_10]; decide) (by rw [c_1_10]; decide) (by rw [c_1_10]; rfl) (by decide) ?_
                        exact k_cController_write_b188 g C st x1 x2 H locs ls hI (lv_sub hl [0, 1, 2] rfl) X hF
                      · have hF := hF.trans (if_neg c_1_10)
                        by_cases c_1_11 : x1 = (22 : Int32)
                        · have hF := hF.trans (if_pos c_1_11)
                          refine lv_tableIn (off := 187) (tgt := 188) hx hb dX1_write_1 (by rw [c_1_11]; decide) (by rw [c_1_11]; decide) (by rw [c_1_11]; rfl) (by decide) ?_
                          exact k_cController_write_b188 g C st x1 x2 H locs ls hI (lv_sub hl [0, 1, 2] rfl) X hF
                        · have hF := hF.trans (if_neg c_1_11)
                          by_cases c_1_12 : x1 = (23 : Int32)
                          · have hF := hF.trans (if_pos c_1_12)
                            refine lv_tableIn (off := 187) (tgt := 188) hx hb dX1_write_1 (by rw [c_1_12]; decide) (by rw [c_1_12]; decide) (by rw [c_1_12]; rfl) (by decide) ?_
                            exact k_cController_write_b188 g C st x1 x2 H locs ls hI (lv_sub hl [0, 1, 2] rfl) X hF
                          · have hF := hF.trans (if_neg c_1_12)
                            by_cases cg_1_2 : x1 = (2 : Int32)
                            · refine lv_tableIn (off := 202) (tgt := 203) hx hb dX1_write_1 (by rw [cg_1_2]; decide) (by rw [cg_1_2]; decide) (by rw [cg_1_2]; rfl) (by decide) ?_
                              exact cx_vret C hI hF dX1_write_203
                            by_cases cg_1_3 : x1 = (3 : Int32)
                            · refine lv_tableIn (off := 202) (tgt := 203) hx hb dX1_write_1 (by rw [cg_1_3]; decide) (by rw [cg_1_3]; decide) (by rw [cg_1_3]; rfl) (by decide) ?_
                              exact cx_vret C hI hF dX1_write_203
                            by_cases cg_1_4 : x1 = (4 : Int32)
                            · refine lv_tableIn (off := 202) (tgt := 203) hx hb dX1_write_1 (by rw [cg_1_4]; decide) (by rw [cg_1_4]; decide) (by rw [cg_1_4]; rfl) (by decide) ?_
                              exact cx_vret C hI hF dX1_write_203
                            by_cases cg_1_7 : x1 = (7 : Int32)
                            · refine lv_tableIn (off := 202) (tgt := 203) hx hb dX1_write_1 (by rw [cg_1_7]; decide) (by rw [cg_1_7]; decide) (by rw [cg_1_7]; rfl) (by decide) ?_
                              exact cx_vret C hI hF dX1_write_203
                            by_cases cg_1_8 : x1 = (8 : Int32)
                            · refine lv_tableIn (off := 202) (tgt := 203) hx hb dX1_write_1 (by rw [cg_1_8]; decide) (by rw [cg_1_8]; decide) (by rw [cg_1_8]; rfl) (by decide) ?_
                              exact cx_vret C hI hF dX1_write_203
                            by_cases cg_1_9 : x1 = (9 : Int32)
                            · refine lv_tableIn (off := 202) (tgt := 203) hx hb dX1_write_1 (by rw [cg_1_9]; decide) (by rw [cg_1_9]; decide) (by rw [cg_1_9]; rfl) (by decide) ?_
                              exact cx_vret C hI hF dX1_write_203
                            by_cases cg_1_11 : x1 = (11 : Int32)
                            · refine lv_tableIn (off := 202) (tgt := 203) hx hb dX1_write_1 (by rw [cg_1_11]; decide) (by rw [cg_1_11]; decide) (by rw [cg_1_11]; rfl) (by decide) ?_
                              exact cx_vret C hI hF dX1_write_203
                            by_cases cg_1_12 : x1 = (12 : Int32)
                            · refine lv_tableIn (off := 202) (tgt := 203) hx hb dX1_write_1 (by rw [cg_1_12]; decide) (by rw [cg_1_12]; decide) (by rw [cg_1_12]; rfl) (by decide) ?_
                              exact cx_vret C hI hF dX1_write_203
                            by_cases cg_1_13 : x1 = (13 : Int32)
                            · refine lv_tableIn (off := 202) (tgt := 203) hx hb dX1_write_1 (by rw [cg_1_13]; decide) (by rw [cg_1_13]; decide) (by rw [cg_1_13]; rfl) (by decide) ?_
                              exact cx_vret C hI hF dX1_write_203
                            by_cases cg_1_15 : x1 = (15 : Int32)
                            · refine lv_tableIn (off := 202) (tgt := 203) hx hb dX1_write_1 (by rw [cg_1_15]; decide) (by rw [cg_1_15]; decide) (by rw [cg_1_15]; rfl) (by decide) ?_
                              exact cx_vret C hI hF dX1_write_203
                            refine lv_tableOut (tgt := 203) hx hb dX1_write_1 (by have h0 := lv_neT (a := 1) c_1_0 (by decide); have h1 := lv_neT (a := 5) c_1_1 (by decide); have h2 := lv_neT (a := 6) c_1_2 (by decide); have h3 := lv_neT (a := 10) c_1_3 (by decide); have h4 := lv_neT (a := 14) c_1_4 (by decide); have h5 := lv_neT (a := 16) c_1_5 (by decide); have h6 := lv_neT (a := 17) c_1_6 (by decide); have h7 := lv_neT (a := 18) c_1_7 (by decide); have h8 := lv_neT (a := 19) c_1_8 (by decide); have h9 := lv_neT (a := 20) c_1_9 (by decide); have h10 := lv_neT (a := 21) c_1_10 (by decide); have h11 := lv_neT (a := 22) c_1_11 (by decide); have h12 := lv_neT (a := 23) c_1_12 (by decide); have g0 := lv_neT (a := 2) cg_1_2 (by decide); have g1 := lv_neT (a := 3) cg_1_3 (by decide); have g2 := lv_neT (a := 4) cg_1_4 (by decide); have g3 := lv_neT (a := 7) cg_1_7 (by decide); have g4 := lv_neT (a := 8) cg_1_8 (by decide); have g5 := lv_neT (a := 9) cg_1_9 (by decide); have g6 := lv_neT (a := 11) cg_1_11 (by decide); have g7 := lv_neT (a := 12) cg_1_12 (by decide); have g8 := lv_neT (a := 13) cg_1_13 (by decide); have g9 := lv_neT (a := 15) cg_1_15 (by decide); omega) (by decide) ?_
                            exact cx_vret C hI hF dX1_write_203
set_option maxHeartbeats 4000000 in
set_option maxRecDepth 100000 in
theorem c_cController_write (l : Launch) (g : Gm) (st : CS) (x1 : Int32) (x2 : Int32) : Mv l yX1_write wq_X1_write rm_cController_write (gD g) vwCl (cty g) (cw g) (cz g) [.ref (gad g 12), .int x1, .int x2] st (cController_write st x1 x2) := by
  intro sz
  refine Met.ofW (cc := cX1_write) (maxL := 3) (ret := none) (by decide) rfl ?_
  intro p e s m args below meth c s₁ B hml hv
  obtain ⟨rfl, hsz, hP, hK, hD0, hZ⟩ := hv
  subst hsz
  have hl := lv_entry ([.ref (gad g 12), .int x1, .int x2]) (n := 3) (Nat.le_of_ble_eq_true rfl)
  rw [lg_entry_eq]
  generalize (lg_sl ([.ref (gad g 12), .int x1, .int x2]) ++ List.replicate (3 - (lg_sl ([.ref (gad g 12), .int x1, .int x2])).length) Slot.unset).toArray = ls at hl ⊢
  exact k_cController_write g ⟨B.exec, B.bytes, B.returns, hml, findClass_of_methodNamed B.named, atoms_spec (ws := wq_X1_write) B.pre, B.notSynchronized, hK, fun q h => Or.inr h, hZ, cz_ok g⟩ st x1 x2 _ _ ls ⟨hP, hD0.self, va_S.rf⟩ hl _ rfl
abbrev wq_X1_timersCountDown : List Cond := .code yX1_timersCountDown cX1_timersCountDown 1 none :: wAll
theorem yd_yX1_timersCountDown : yX1_timersCountDown.cls = RX1 ∧ yX1_timersCountDown.cls ≠ "java/lang/invoke/MethodHandle" ∧ yX1_timersCountDown.cls ≠ "java/lang/invoke/VarHandle" ∧ (parseMethodDescriptor yX1_timersCountDown.desc).map (fun d => d.parameters.length) = some 0 := by decide +kernel
abbrev rm_cController_timersCountDown : Room := { frames := 1, cells := 0, slots := 0, locals := 20 }
def cController_timersCountDown_b31 (st : CS) (y0 : Int32) : CS := (if (y0 = 0) then st else (sI st 2 ((gI st 2) ||| (64 : Int32))))
set_option maxHeartbeats 4000000 in
set_option maxRecDepth 100000 in
theorem k_cController_timersCountDown_b31 {p : Program} {l : Launch} {e : Env} {s : State} {m : MethodId} {args : Array Value} {below : List Frame} {meth : Method} {c : Code} {A : Nat → Prop} (g : Gm) (C : cX p s m args meth c A cX1_timersCountDown none 1 RX1 wq_X1_timersCountDown (gD g) vwCl (cty g) (cz g)) (st : CS) (y0 : Int32) (H : Heap) (locs : List Loc) (ls : Array Slot) (hI : cI (gD g) vwCl (cw g) A s st H locs) (hl : lv_has ls 1 [(0, .ref (gad g 12))]) (X : CS) (hF : X = cController_timersCountDown_b31 st y0) : W p l e rm_cController_timersCountDown s m args below meth c H locs 0 0 (MQ below (cQv (gD g) vwCl (cty g) (cw g) A X) args s 0 0 A) (F0 m 31 ls [.int y0]) := by
  obtain ⟨hx, hb, hr, hml, hown, hts, hlocks, hK, hA, hZ, hzo⟩ := id C
  unfold cController_timersCountDown_b31 at hF
  refine lv_if_eq (tgt := 48) hx hb dX1_timersCountDown_31 (by decide) (fun c_31 => ?_) (fun c_31 => ?_)
  · have hF := hF.trans (if_pos c_31)
    exact cx_vret C hI hF dX1_timersCountDown_48
  · have hF := hF.trans (if_neg c_31)
    refine lv_aload_n hx hb dX1_timersCountDown_34 rfl (lv_at hl 0 rfl) ?_
    refine va_get (D := gD g) (ci := 1) (C := RX1) (T := TX1) (N := 5) (v := .ref (gad g 7)) hx hb hts (fun w h => List.mem_cons_of_mem _ (isX10 w h)) hown hK hI.1 12 rfl rfl 0 (by decide) (hts _ (List.mem_cons_of_mem _ mw84)) (fun _ h9 => h9) rfl dX1_timersCountDown_35 ?_
    refine lv_dup hx hb dX1_timersCountDown_38 rfl ?_
    refine va_get (D := gD g) (ci := 4) (C := RX4) (T := TX4) (N := 6) (v := .int (gI st 2)) hx hb hts (fun w h => List.mem_cons_of_mem _ (isX40 w h)) hown hK hI.1 7 rfl rfl 0 (by decide) (hts _ (List.mem_cons_of_mem _ mw549)) (fun _ h9 => h9) rfl dX1_timersCountDown_39 ?_
    refine lv_bipush (v := (64 : Int32)) hx hb dX1_timersCountDown_42 (by decide) ?_
    refine lv_ior hx hb dX1_timersCountDown_44 ?_
    refine va_put (D := gD g) (ci := 4) (C := RX4) (T := TX4) (N := 6) (v := .int ((gI st 2) ||| (64 : Int32))) (ty := .int) hx hb hts (fun w h => List.mem_cons_of_mem _ (isX40 w h)) tyX4 tyX4_ok nmX4 hown hK hI.1 hI.2.1 hI.2.2 7 rfl rfl 0 (by decide) (hts _ (List.mem_cons_of_mem _ mw549)) (fun _ h9 => h9) rfl (by decide +kernel) rfl rfl (Nat.le_of_ble_eq_true rfl) dX1_timersCountDown_45 (fun H locs hP hD hS => ?_)
    have hI : cI (gD g) vwCl (cw g) A s (sI st 2 ((gI st 2) ||| (64 : Int32))) H locs := ⟨hP, hD, hS⟩
    exact cx_vret C hI hF dX1_timersCountDown_48
def cController_timersCountDown_b24 (st : CS) : CS := (cController_timersCountDown_b31 (cTimer_countsDown1 st).1 (cTimer_countsDown1 st).2)
set_option maxHeartbeats 4000000 in
set_option maxRecDepth 100000 in
theorem k_cController_timersCountDown_b24 {p : Program} {l : Launch} {e : Env} {s : State} {m : MethodId} {args : Array Value} {below : List Frame} {meth : Method} {c : Code} {A : Nat → Prop} (g : Gm) (C : cX p s m args meth c A cX1_timersCountDown none 1 RX1 wq_X1_timersCountDown (gD g) vwCl (cty g) (cz g)) (st : CS) (H : Heap) (locs : List Loc) (ls : Array Slot) (hI : cI (gD g) vwCl (cw g) A s st H locs) (hl : lv_has ls 1 [(0, .ref (gad g 12))]) (X : CS) (hF : X = cController_timersCountDown_b24 st ) : W p l e rm_cController_timersCountDown s m args below meth c H locs 0 0 (MQ below (cQv (gD g) vwCl (cty g) (cw g) A X) args s 0 0 A) (F0 m 24 ls []) := by
  obtain ⟨hx, hb, hr, hml, hown, hts, hlocks, hK, hA, hZ, hzo⟩ := id C
  unfold cController_timersCountDown_b24 at hF
  refine lv_aload_n hx hb dX1_timersCountDown_24 rfl (lv_at hl 0 rfl) ?_
  refine va_get (D := gD g) (ci := 1) (C := RX1) (T := TX1) (N := 5) (v := .ref (gad g 14)) hx hb hts (fun w h => List.mem_cons_of_mem _ (isX10 w h)) hown hK hI.1 12 rfl rfl 3 (by decide) (hts _ (List.mem_cons_of_mem _ mw83)) (fun _ h9 => h9) rfl dX1_timersCountDown_25 ?_
  refine cx_Vi (As := []) (rest := []) C (c_cTimer_countsDown1 l g st ) (cwV 0 hts (gd_V _ mw689 mw690 mw691 mw81 mw692) rfl rfl rfl yd_yX9_countsDown ⟨Nat.le_of_ble_eq_true rfl, Nat.le_of_ble_eq_true rfl⟩) (va_recv hK hI.1 (ci := 9) (q0 := 14) rfl rfl) hI rfl hl.1 rfl (Nat.le_of_ble_eq_true rfl) dX1_timersCountDown_28 (fun H locs hI => ?_)
  exact k_cController_timersCountDown_b31 g C (cTimer_countsDown1 st).1 (cTimer_countsDown1 st).2 H locs ls hI (lv_sub hl [0] rfl) X hF
def cController_timersCountDown_b7 (st : CS) (y0 : Int32) : CS := (if (y0 = 0) then (cController_timersCountDown_b24 st ) else (cController_timersCountDown_b24 (sI st 2 ((gI st 2) ||| (32 : Int32))) ))
set_option maxHeartbeats 4000000 in
set_option maxRecDepth 100000 in
theorem k_cController_timersCountDown_b7 {p : Program} {l : Launch} {e : Env} {s : State} {m : MethodId} {args : Array Value} {below : List Frame} {meth : Method} {c : Code} {A : Nat → Prop} (g : Gm) (C : cX p s m args meth c A cX1_timersCountDown none 1 RX1 wq_X1_timersCountDown (gD g) vwCl (cty g) (cz g)) (st : CS) (y0 : Int32) (H : Heap) (locs : List Loc) (ls : Array Slot) (hI : cI (gD g) vwCl (cw g) A s st H locs) (hl : lv_has ls 1 [(0, .ref (gad g 12))]) (X : CS) (hF : X = cController_timersCountDown_b7 st y0) : W p l e rm_cController_timersCountDown s m args below meth c H locs 0 0 (MQ below (cQv (gD g) vwCl (cty g) (cw g) A X) args s 0 0 A) (F0 m 7 ls [.int y0]) := by
  obtain ⟨hx, hb, hr, hml, hown, hts, hlocks, hK, hA, hZ, hzo⟩ := id C
  unfold cController_timersCountDown_b7 at hF
  refine lv_if_eq (tgt := 24) hx hb dX1_timersCountDown_7 (by decide) (fun c_7 => ?_) (fun c_7 => ?_)
  · have hF := hF.trans (if_pos c_7)
    exact k_cController_timersCountDown_b24 g C st  H locs ls hI (lv_sub hl [0] rfl) X hF
  · have hF := hF.trans (if_neg c_7)
    refine lv_aload_n hx hb dX1_timersCountDown_10 rfl (lv_at hl 0 rfl) ?_
    refine va_get (D := gD g) (ci := 1) (C := RX1) (T := TX1) (N := 5) (v := .ref (gad g 7)) hx hb hts (fun w h => List.mem_cons_of_mem _ (isX10 w h)) hown hK hI.1 12 rfl rfl 0 (by decide) (hts _ (List.mem_cons_of_mem _ mw84)) (fun _ h9 => h9) rfl dX1_timersCountDown_11 ?_
    refine lv_dup hx hb dX1_timersCountDown_14 rfl ?_
    refine va_get (D := gD g) (ci := 4) (C := RX4) (T := TX4) (N := 6) (v := .int (gI st 2)) hx hb hts (fun w h => List.mem_cons_of_mem _ (isX40 w h)) hown hK hI.1 7 rfl rfl 0 (by decide) (hts _ (List.mem_cons_of_mem _ mw549)) (fun _ h9 => h9) rfl dX1_timersCountDown_15 ?_
    refine lv_bipush (v := (32 : Int32)) hx hb dX1_timersCountDown_18 (by decide) ?_
    refine lv_ior hx hb dX1_timersCountDown_20 ?_
    refine va_put (D := gD g) (ci := 4) (C := RX4) (T := TX4) (N := 6) (v := .int ((gI st 2) ||| (32 : Int32))) (ty := .int) hx hb hts (fun w h => List.mem_cons_of_mem _ (isX40 w h)) tyX4 tyX4_ok nmX4 hown hK hI.1 hI.2.1 hI.2.2 7 rfl rfl 0 (by decide) (hts _ (List.mem_cons_of_mem _ mw549)) (fun _ h9 => h9) rfl (by decide +kernel) rfl rfl (Nat.le_of_ble_eq_true rfl) dX1_timersCountDown_21 (fun H locs hP hD hS => ?_)
    have hI : cI (gD g) vwCl (cw g) A s (sI st 2 ((gI st 2) ||| (32 : Int32))) H locs := ⟨hP, hD, hS⟩
    exact k_cController_timersCountDown_b24 g C (sI st 2 ((gI st 2) ||| (32 : Int32)))  H locs ls hI (lv_sub hl [0] rfl) X hF
def cController_timersCountDown (st : CS) : CS := (cController_timersCountDown_b7 (cTimer_countsDown0 st).1 (cTimer_countsDown0 st).2)
set_option maxHeartbeats 4000000 in
set_option maxRecDepth 100000 in
theorem k_cController_timersCountDown {p : Program} {l : Launch} {e : Env} {s : State} {m : MethodId} {args : Array Value} {below : List Frame} {meth : Method} {c : Code} {A : Nat → Prop} (g : Gm) (C : cX p s m args meth c A cX1_timersCountDown none 1 RX1 wq_X1_timersCountDown (gD g) vwCl (cty g) (cz g)) (st : CS) (H : Heap) (locs : List Loc) (ls : Array Slot) (hI : cI (gD g) vwCl (cw g) A s st H locs) (hl : lv_has ls 1 [(0, .ref (gad g 12))]) (X : CS) (hF : X = cController_timersCountDown st) : W p l e rm_cController_timersCountDown s m args below meth c H locs 0 0 (MQ below (cQv (gD g) vwCl (cty g) (cw g) A X) args s 0 0 A) (F0 m 0 ls []) := by
  obtain ⟨hx, hb, hr, hml, hown, hts, hlocks, hK, hA, hZ, hzo⟩ := id C
  unfold cController_timersCountDown at hF
  refine lv_aload_n hx hb dX1_timersCountDown_0 rfl (lv_at hl 0 rfl) ?_
  refine va_get (D := gD g) (ci := 1) (C := RX1) (T := TX1) (N := 5) (v := .ref (gad g 13)) hx hb hts (fun w h => List.mem_cons_of_mem _ (isX10 w h)) hown hK hI.1 12 rfl rfl 2 (by decide) (hts _ (List.mem_cons_of_mem _ mw82)) (fun _ h9 => h9) rfl dX1_timersCountDown_1 ?_
  refine cx_Vi (As := []) (rest := []) C (c_cTimer_countsDown0 l g st ) (cwV 0 hts (gd_V _ mw689 mw690 mw691 mw81 mw692) rfl rfl rfl yd_yX9_countsDown ⟨Nat.le_of_ble_eq_true rfl, Nat.le_of_ble_eq_true rfl⟩) (va_recv hK hI.1 (ci := 9) (q0 := 13) rfl rfl) hI rfl hl.1 rfl (Nat.le_of_ble_eq_true rfl) dX1_timersCountDown_4 (fun H locs hI => ?_)
  exact k_cController_timersCountDown_b7 g C (cTimer_countsDown0 st).1 (cTimer_countsDown0 st).2 H locs ls hI (lv_sub hl [0] rfl) X hF
set_option maxHeartbeats 4000000 in
set_option maxRecDepth 100000 in
theorem c_cController_timersCountDown (l : Launch) (g : Gm) (st : CS) : Mv l yX1_timersCountDown wq_X1_timersCountDown rm_cController_timersCountDown (gD g) vwCl (cty g) (cw g) (cz g) [.ref (gad g 12)] st (cController_timersCountDown st) := by
  intro sz
  refine Met.ofW (cc := cX1_timersCountDown) (maxL := 1) (ret := none) (by decide) rfl ?_
  intro p e s m args below meth c s₁ B hml hv
  obtain ⟨rfl, hsz, hP, hK, hD0, hZ⟩ := hv
  subst hsz
  have hl := lv_entry ([.ref (gad g 12)]) (n := 1) (Nat.le_of_ble_eq_true rfl)
  rw [lg_entry_eq]
  generalize (lg_sl ([.ref (gad g 12)]) ++ List.replicate (1 - (lg_sl ([.ref (gad g 12)])).length) Slot.unset).toArray = ls at hl ⊢
  exact k_cController_timersCountDown g ⟨B.exec, B.bytes, B.returns, hml, findClass_of_methodNamed B.named, atoms_spec (ws := wq_X1_timersCountDown) B.pre, B.notSynchronized, hK, fun q h => Or.inr h, hZ, cz_ok g⟩ st  _ _ ls ⟨hP, hD0.self, va_S.rf⟩ hl _ rfl
abbrev wq_X1_goOn : List Cond := .code yX1_goOn cX1_goOn 3 none :: wAll
theorem yd_yX1_goOn : yX1_goOn.cls = RX1 ∧ yX1_goOn.cls ≠ "java/lang/invoke/MethodHandle" ∧ yX1_goOn.cls ≠ "java/lang/invoke/VarHandle" ∧ (parseMethodDescriptor yX1_goOn.desc).map (fun d => d.parameters.length) = some 1 := by decide +kernel
abbrev rm_cController_goOn : Room := { frames := 2, cells := 0, slots := 0, locals := 40 }
def cController_goOn_b25 (rec : CS → Int32 → Option (CS)) (st : CS) (x2 : Int32) : Option (CS) := (rec st (x2 + (-1 : Int32)))
set_option maxHeartbeats 4000000 in
set_option maxRecDepth 100000 in
theorem k_cController_goOn_b25 {p : Program} {l : Launch} {e : Env} {s : State} {m : MethodId} {args : Array Value} {below : List Frame} {meth : Method} {c : Code} {A : Nat → Prop} (g : Gm) (C : cX p s m args meth c A cX1_goOn none 3 RX1 wq_X1_goOn (gD g) vwCl (cty g) (cz g)) (rec : CS → Int32 → Option (CS)) (hrec : ∀ (st : CS) (x2 : Int32) (H : Heap) (locs : List Loc) (ls : Array Slot), cI (gD g) vwCl (cw g) A s st H locs → lv_has ls 3 [(0, .ref (gad g 12)), (2, .int x2)] → ∀ (X : CS), some X = rec st x2 → W p l e rm_cController_goOn s m args below meth c H locs 0 0 (MQ below (cQv (gD g) vwCl (cty g) (cw g) A X) args s 0 0 A) (F0 m 17 ls [])) (st : CS) (x2 : Int32) (H : Heap) (locs : List Loc) (ls : Array Slot) (hI : cI (gD g) vwCl (cw g) A s st H locs) (hl : lv_has ls 3 [(0, .ref (gad g 12)), (2, .int x2)]) (X : CS) (hF : some X = cController_goOn_b25 rec st x2) : W p l e rm_cController_goOn s m args below meth c H locs 0 0 (MQ below (cQv (gD g) vwCl (cty g) (cw g) A X) args s 0 0 A) (F0 m 25 ls []) := by
  obtain ⟨hx, hb, hr, hml, hown, hts, hlocks, hK, hA, hZ, hzo⟩ := id C
  unfold cController_goOn_b25 at hF
  refine lv_iinc (v := (x2 + (-1 : Int32))) (lv' := [(2, .int (x2 + (-1 : Int32))), (0, .ref (gad g 12))]) hx hb dX1_goOn_25 hl (k := 1) rfl rfl (by decide) rfl (fun ls hl => ?_)
  refine lv_goto (tgt := 17) hx hb dX1_goOn_28 (by decide) ?_
  exact hrec st (x2 + (-1 : Int32)) H locs ls hI (lv_sub hl [1, 0] rfl) X hF
def cController_goOn_b17 : Nat → CS → Int32 → Option (CS)
  | 0, _, _ => none
  | n + 1, st, x2 => (if (x2 ≤ 0) then (some (sI st 17 ((gI st 17) &&& (3 : Int32)))) else (cController_goOn_b25 (cController_goOn_b17 n) (cController_timersCountDown st) x2))
set_option maxHeartbeats 4000000 in
set_option maxRecDepth 100000 in
theorem k_cController_goOn_b17 {p : Program} {l : Launch} {e : Env} {s : State} {m : MethodId} {args : Array Value} {below : List Frame} {meth : Method} {c : Code} {A : Nat → Prop} (g : Gm) (C : cX p s m args meth c A cX1_goOn none 3 RX1 wq_X1_goOn (gD g) vwCl (cty g) (cz g)) : ∀ (n : Nat) (st : CS) (x2 : Int32) (H : Heap) (locs : List Loc) (ls : Array Slot), cI (gD g) vwCl (cw g) A s st H locs → lv_has ls 3 [(0, .ref (gad g 12)), (2, .int x2)] → ∀ (X : CS), some X = cController_goOn_b17 n st x2 → W p l e rm_cController_goOn s m args below meth c H locs 0 0 (MQ below (cQv (gD g) vwCl (cty g) (cw g) A X) args s 0 0 A) (F0 m 17 ls []) := by
  obtain ⟨hx, hb, hr, hml, hown, hts, hlocks, hK, hA, hZ, hzo⟩ := id C
  intro n
  induction n with
  | zero => intro st x2 H locs ls hI hl X hF; exact absurd hF (by simp [cController_goOn_b17])
  | succ n ih =>
    intro st x2 H locs ls hI hl X hF
    rw [cController_goOn_b17] at hF
    refine lv_iload_n hx hb dX1_goOn_17 rfl (lv_at hl 1 rfl) ?_
    refine lv_if_le (tgt := 31) hx hb dX1_goOn_18 (by decide) (fun c_18 => ?_) (fun c_18 => ?_)
    · have hF := hF.trans (if_pos c_18)
      refine lv_aload_n hx hb dX1_goOn_31 rfl (lv_at hl 0 rfl) ?_
      refine lv_dup hx hb dX1_goOn_32 rfl ?_
      refine va_get (D := gD g) (ci := 1) (C := RX1) (T := TX1) (N := 5) (v := .int (gI st 17)) hx hb hts (fun w h => List.mem_cons_of_mem _ (isX10 w h)) hown hK hI.1 12 rfl rfl 4 (by decide) (hts _ (List.mem_cons_of_mem _ mw162)) (fun _ h9 => h9) rfl dX1_goOn_33 ?_
      refine lv_iconst (v := (3 : Int32)) hx hb dX1_goOn_36 (by decide) ?_
      refine lv_iand hx hb dX1_goOn_37 ?_
      refine va_put (D := gD g) (ci := 1) (C := RX1) (T := TX1) (N := 5) (v := .int ((gI st 17) &&& (3 : Int32))) (ty := .int) hx hb hts (fun w h => List.mem_cons_of_mem _ (isX10 w h)) tyX1 tyX1_ok nmX1 hown hK hI.1 hI.2.1 hI.2.2 12 rfl rfl 4 (by decide) (hts _ (List.mem_cons_of_mem _ mw162)) (fun _ h9 => h9) rfl (by decide +kernel) rfl rfl (Nat.le_of_ble_eq_true rfl) dX1_goOn_38 (fun H locs hP hD hS => ?_)
      have hI : cI (gD g) vwCl (cw g) A s (sI st 17 ((gI st 17) &&& (3 : Int32))) H locs := ⟨hP, hD, hS⟩
      have hF := Option.some.inj hF
      exact cx_vret C hI hF dX1_goOn_41
    · have hF := hF.trans (if_neg c_18)
      refine lv_aload_n hx hb dX1_goOn_21 rfl (lv_at hl 0 rfl) ?_
      refine cx_Vv (As := []) (rest := []) C (c_cController_timersCountDown l g st ) (cwV 0 hts (gd_V _ mw685 mw686 mw687 mw34 mw688) rfl rfl rfl yd_yX1_timersCountDown ⟨Nat.le_of_ble_eq_true rfl, Nat.le_of_ble_eq_true rfl⟩) (va_recv hK hI.1 (ci := 1) (q0 := 12) rfl rfl) hI rfl hl.1 rfl (Nat.le_of_ble_eq_true rfl) dX1_goOn_22 (fun H locs hI => ?_)
      exact k_cController_goOn_b25 g C (cController_goOn_b17 n) ih (cController_timersCountDown st) x2 H locs ls hI (lv_sub hl [0, 1] rfl) X hF
def cController_goOn_b17t (st : CS) (x2 : Int32) : CS := (cController_goOn_b17 (x2.toNatClampNeg + 1) st x2).getD st
theorem e_cController_goOn : ∀ (n j : Nat) (st : CS), j < 2 ^ 31 → j < n → ∃ r, cController_goOn_b17 n st (nI j) = some r := by
  intro n
  induction n with
  | zero => intro j st h0 h; omega
  | succ n ih =>
    intro j st h0 h
    rw [cController_goOn_b17]
    cases j with
    | zero => rw [if_pos (by decide)]; exact ⟨_, rfl⟩
    | succ j =>
      rw [if_neg (nI_nle (Nat.succ_pos j) h0)]
      unfold cController_goOn_b25
      rw [show nI (j + 1) + (-1 : Int32) = nI j from pk_m1 j]
      exact ih j _ (by omega) (by omega)
theorem t_cController_goOn_b17 (st : CS) (x2 : Int32) : some (cController_goOn_b17t st x2) = cController_goOn_b17 (x2.toNatClampNeg + 1) st x2 := by
  refine some_getD ?_
  by_cases h : x2 < 0
  · rw [cController_goOn_b17, if_pos (Int32.le_of_lt h)]
    exact ⟨_, rfl⟩
  · obtain ⟨j, hj, rfl⟩ := nI_of h
    exact e_cController_goOn _ j st hj (by rw [nI_clamp hj]; omega)
set_option maxHeartbeats 4000000 in
set_option maxRecDepth 100000 in
theorem k_cController_goOn_b17t {p : Program} {l : Launch} {e : Env} {s : State} {m : MethodId} {args : Array Value} {below : List Frame} {meth : Method} {c : Code} {A : Nat → Prop} (g : Gm) (C : cX p s m args meth c A cX1_goOn none 3 RX1 wq_X1_goOn (gD g) vwCl (cty g) (cz g)) (st : CS) (x2 : Int32) (H : Heap) (locs : List Loc) (ls : Array Slot) (hI : cI (gD g) vwCl (cw g) A s st H locs) (hl : lv_has ls 3 [(0, .ref (gad g 12)), (2, .int x2)]) (X : CS) (hF : X = cController_goOn_b17t st x2) : W p l e rm_cController_goOn s m args below meth c H locs 0 0 (MQ below (cQv (gD g) vwCl (cty g) (cw g) A X) args s 0 0 A) (F0 m 17 ls []) := by
  refine k_cController_goOn_b17 g C (x2.toNatClampNeg + 1) st x2 H locs ls hI hl X ?_
  rw [hF]
  exact t_cController_goOn_b17 st x2
def cController_goOn (st : CS) (x1 : Int32) : CS := (cController_goOn_b17t (sI st 17 ((gI st 17) + x1)) (((gI st 17) + x1) >>> ((2 : Int32) &&& 31)))
set_option maxHeartbeats 4000000 in
set_option maxRecDepth 100000 in
theorem k_cController_goOn {p : Program} {l : Launch} {e : Env} {s : State} {m : MethodId} {args : Array Value} {below : List Frame} {meth : Method} {c : Code} {A : Nat → Prop} (g : Gm) (C : cX p s m args meth c A cX1_goOn none 3 RX1 wq_X1_goOn (gD g) vwCl (cty g) (cz g)) (st : CS) (x1 : Int32) (H : Heap) (locs : List Loc) (ls : Array Slot) (hI : cI (gD g) vwCl (cw g) A s st H locs) (hl : lv_has ls 3 [(0, .ref (gad g 12)), (1, .int x1)]) (X : CS) (hF : X = cController_goOn st x1) : W p l e rm_cController_goOn s m args below meth c H locs 0 0 (MQ below (cQv (gD g) vwCl (cty g) (cw g) A X) args s 0 0 A) (F0 m 0 ls []) := by
  obtain ⟨hx, hb, hr, hml, hown, hts, hlocks, hK, hA, hZ, hzo⟩ := id C
  unfold cController_goOn at hF
  refine lv_aload_n hx hb dX1_goOn_0 rfl (lv_at hl 0 rfl) ?_
  refine lv_dup hx hb dX1_goOn_1 rfl ?_
  refine va_get (D := gD g) (ci := 1) (C := RX1) (T := TX1) (N := 5) (v := .int (gI st 17)) hx hb hts (fun w h => List.mem_cons_of_mem _ (isX10 w h)) hown hK hI.1 12 rfl rfl 4 (by decide) (hts _ (List.mem_cons_of_mem _ mw162)) (fun _ h9 => h9) rfl dX1_goOn_2 ?_
  refine lv_iload_n hx hb dX1_goOn_5 rfl (lv_at hl 1 rfl) ?_
  refine lv_iadd hx hb dX1_goOn_6 ?_
  refine va_put (D := gD g) (ci := 1) (C := RX1) (T := TX1) (N := 5) (v := .int ((gI st 17) + x1)) (ty := .int) hx hb hts (fun w h => List.mem_cons_of_mem _ (isX10 w h)) tyX1 tyX1_ok nmX1 hown hK hI.1 hI.2.1 hI.2.2 12 rfl rfl 4 (by decide) (hts _ (List.mem_cons_of_mem _ mw162)) (fun _ h9 => h9) rfl (by decide +kernel) rfl rfl (Nat.le_of_ble_eq_true rfl) dX1_goOn_7 (fun H locs hP hD hS => ?_)
  have hI : cI (gD g) vwCl (cw g) A s (sI st 17 ((gI st 17) + x1)) H locs := ⟨hP, hD, hS⟩
  refine lv_aload_n hx hb dX1_goOn_10 rfl (lv_at hl 0 rfl) ?_
  refine va_get (D := gD g) (ci := 1) (C := RX1) (T := TX1) (N := 5) (v := .int ((gI st 17) + x1)) hx hb hts (fun w h => List.mem_cons_of_mem _ (isX10 w h)) hown hK hI.1 12 rfl rfl 4 (by decide) (hts _ (List.mem_cons_of_mem _ mw162)) (fun _ h9 => h9) rfl dX1_goOn_11 ?_
  refine lv_iconst (v := (2 : Int32)) hx hb dX1_goOn_14 (by decide) ?_
  refine lv_ishr hx hb dX1_goOn_15 ?_
  refine lv_istore_n (lv' := [(2, .int (((gI st 17) + x1) >>> ((2 : Int32) &&& 31))), (0, .ref (gad g 12)), (1, .int x1)]) hx hb dX1_goOn_16 rfl hl (by decide) rfl (fun ls hl => ?_)
  exact k_cController_goOn_b17t g C (sI st 17 ((gI st 17) + x1)) (((gI st 17) + x1) >>> ((2 : Int32) &&& 31)) H locs ls hI (lv_sub hl [1, 0] rfl) X hF
set_option maxHeartbeats 4000000 in
set_option maxRecDepth 100000 in
theorem c_cController_goOn (l : Launch) (g : Gm) (st : CS) (x1 : Int32) : Mv l yX1_goOn wq_X1_goOn rm_cController_goOn (gD g) vwCl (cty g) (cw g) (cz g) [.ref (gad g 12), .int x1] st (cController_goOn st x1) := by
  intro sz
  refine Met.ofW (cc := cX1_goOn) (maxL := 3) (ret := none) (by decide) rfl ?_
  intro p e s m args below meth c s₁ B hml hv
  obtain ⟨rfl, hsz, hP, hK, hD0, hZ⟩ := hv
  subst hsz
  have hl := lv_entry ([.ref (gad g 12), .int x1]) (n := 3) (Nat.le_of_ble_eq_true rfl)
  rw [lg_entry_eq]
  generalize (lg_sl ([.ref (gad g 12), .int x1]) ++ List.replicate (3 - (lg_sl ([.ref (gad g 12), .int x1])).length) Slot.unset).toArray = ls at hl ⊢
  exact k_cController_goOn g ⟨B.exec, B.bytes, B.returns, hml, findClass_of_methodNamed B.named, atoms_spec (ws := wq_X1_goOn) B.pre, B.notSynchronized, hK, fun q h => Or.inr h, hZ, cz_ok g⟩ st x1 _ _ ls ⟨hP, hD0.self, va_S.rf⟩ hl _ rfl
abbrev rm_cArrays_fill16 : Room := { frames := 0, cells := 0, slots := 0, locals := 0 }
def cArrays_fill16_b5 : Nat → CS → Int32 → Int32 → Int32 → Option (CS)
  | 0, _, _, _, _ => none
  | n + 1, st, x1, x2, x3 => (if (x3 ≤ x2) then (some st) else (cArrays_fill16_b5 n (sA st 6 (upd (gA st 6) x2.toNatClampNeg x1)) x1 (x2 + (1 : Int32)) x3))
set_option maxHeartbeats 4000000 in
set_option maxRecDepth 100000 in
theorem k_cArrays_fill16_b5 {p : Program} {l : Launch} {e : Env} {s : State} {m : MethodId} {args : Array Value} {below : List Frame} {meth : Method} {c : Code} {A : Nat → Prop} (g : Gm) (C : cX p s m args meth c A cJ7_fill_53178 none 4 RJ7 wq_J7_fill_53178 (gD g) vwCl (cty g) (cz g)) : ∀ (n : Nat) (st : CS) (x1 : Int32) (x2 : Int32) (x3 : Int32) (H : Heap) (locs : List Loc) (ls : Array Slot), cI (gD g) vwCl (cw g) A s st H locs → lv_has ls 4 [(0, .ref (gad g 16)), (1, .int x1), (2, .int x2), (3, .int x3)] → fl_ok 16 x2 x3 → ∀ (X : CS), some X = cArrays_fill16_b5 n st x1 x2 x3 → W p l e rm_cArrays_fill16 s m args below meth c H locs 0 0 (MQ below (cQv (gD g) vwCl (cty g) (cw g) A X) args s 0 0 A) (F0 m 5 ls []) := by
  obtain ⟨hx, hb, hr, hml, hown, hts, hlocks, hK, hA, hZ, hzo⟩ := id C
  intro n
  induction n with
  | zero => intro st x1 x2 x3 H locs ls hI hl hf X hF; exact absurd hF (by simp [cArrays_fill16_b5])
  | succ n ih =>
    intro st x1 x2 x3 H locs ls hI hl hf X hF
    rw [cArrays_fill16_b5] at hF
    refine lv_iload_n hx hb dJ7_fill_53178_5 rfl (lv_at hl 2 rfl) ?_
    refine lv_iload_n hx hb dJ7_fill_53178_6 rfl (lv_at hl 3 rfl) ?_
    refine lv_icmp_ge (tgt := 20) hx hb dJ7_fill_53178_7 (by decide) (fun c_7 => ?_) (fun c_7 => ?_)
    · have hF := hF.trans (if_pos c_7)
      have hF := Option.some.inj hF
      exact cx_vret C hI hF dJ7_fill_53178_20
    · have hF := hF.trans (if_neg c_7)
      refine lv_aload_n hx hb dJ7_fill_53178_10 rfl (lv_at hl 0 rfl) ?_
      refine lv_iload_n hx hb dJ7_fill_53178_11 rfl (lv_at hl 2 rfl) ?_
      refine lv_iload_n hx hb dJ7_fill_53178_12 rfl (lv_at hl 1 rfl) ?_
      refine va_iast (f := (gA st 6)) hx hb hK hI.1 hI.2.1 hI.2.2 16 6 rfl rfl (fl_in (by decide) hf c_7) dJ7_fill_53178_13 (fun H locs hP hD hS => ?_)
      have hI : cI (gD g) vwCl (cw g) A s (sA st 6 (upd (gA st 6) x2.toNatClampNeg x1)) H locs := ⟨hP, hD, hS⟩
      refine lv_iinc (v := (x2 + (1 : Int32))) (lv' := [(2, .int (x2 + (1 : Int32))), (0, .ref (gad g 16)), (1, .int x1), (3, .int x3)]) hx hb dJ7_fill_53178_14 hl (k := 2) rfl rfl (by decide) rfl (fun ls hl => ?_)
      refine lv_goto (tgt := 5) hx hb dJ7_fill_53178_17 (by decide) ?_
      exact ih (sA st 6 (upd (gA st 6) x2.toNatClampNeg x1)) x1 (x2 + (1 : Int32)) x3 H locs ls hI (lv_sub hl [1, 2, 0, 3] rfl) (fl_st hf (by decide) c_7) X hF
def cArrays_fill16_b5t (st : CS) (x1 : Int32) (x2 : Int32) (x3 : Int32) : CS := (cArrays_fill16_b5 (17) st x1 x2 x3).getD st
theorem u_cArrays_fill16 (x1 : Int32) : ∀ (n j : Nat) (st : CS), j ≤ 16 → 16 - j < n → cArrays_fill16_b5 n st x1 (nI j) (nI 16) = some (fillS 6 st j 16 x1) := by
  intro n
  induction n with
  | zero => intro j st h1 h2; omega
  | succ n ih =>
    intro j st h1 h2
    rw [cArrays_fill16_b5]
    rcases Nat.lt_or_ge j 16 with q | q
    · rw [if_neg (nI_ge q (by decide)), show nI j + (1 : Int32) = nI (j + 1) from nI_1 j, nI_clamp (by omega), ih (j + 1) _ q (by omega), fillS_st 6 st j 16 x1 q]
    · have e : j = 16 := by omega
      subst e
      rw [if_pos (nI_le (Nat.le_refl _) (by decide)), fillS_0]
theorem t_cArrays_fill16_b5 (st : CS) (x1 x2 x3 : Int32) (hf : fl_ok 16 x2 x3) : some (cArrays_fill16_b5t st x1 x2 x3) = cArrays_fill16_b5 (17) st x1 x2 x3 := by
  obtain ⟨j, hj, rfl, rfl⟩ := hf
  exact some_getD ⟨_, u_cArrays_fill16 x1 _ j st hj (by omega)⟩
set_option maxHeartbeats 4000000 in
set_option maxRecDepth 100000 in
theorem k_cArrays_fill16_b5t {p : Program} {l : Launch} {e : Env} {s : State} {m : MethodId} {args : Array Value} {below : List Frame} {meth : Method} {c : Code} {A : Nat → Prop} (g : Gm) (C : cX p s m args meth c A cJ7_fill_53178 none 4 RJ7 wq_J7_fill_53178 (gD g) vwCl (cty g) (cz g)) (st : CS) (x1 : Int32) (x2 : Int32) (x3 : Int32) (H : Heap) (locs : List Loc) (ls : Array Slot) (hI : cI (gD g) vwCl (cw g) A s st H locs) (hl : lv_has ls 4 [(0, .ref (gad g 16)), (1, .int x1), (2, .int x2), (3, .int x3)]) (hf : fl_ok 16 x2 x3) (X : CS) (hF : X = cArrays_fill16_b5t st x1 x2 x3) : W p l e rm_cArrays_fill16 s m args below meth c H locs 0 0 (MQ below (cQv (gD g) vwCl (cty g) (cw g) A X) args s 0 0 A) (F0 m 5 ls []) := by
  refine k_cArrays_fill16_b5 g C (17) st x1 x2 x3 H locs ls hI hl hf X ?_
  rw [hF]
  exact t_cArrays_fill16_b5 st x1 x2 x3 hf
def cArrays_fill16 (st : CS) (x1 : Int32) : CS := (cArrays_fill16_b5t st x1 (0 : Int32) (16 : Int32))
set_option maxHeartbeats 4000000 in
set_option maxRecDepth 100000 in
theorem k_cArrays_fill16 {p : Program} {l : Launch} {e : Env} {s : State} {m : MethodId} {args : Array Value} {below : List Frame} {meth : Method} {c : Code} {A : Nat → Prop} (g : Gm) (C : cX p s m args meth c A cJ7_fill_53178 none 4 RJ7 wq_J7_fill_53178 (gD g) vwCl (cty g) (cz g)) (st : CS) (x1 : Int32) (H : Heap) (locs : List Loc) (ls : Array Slot) (hI : cI (gD g) vwCl (cw g) A s st H locs) (hl : lv_has ls 4 [(0, .ref (gad g 16)), (1, .int x1)]) (X : CS) (hF : X = cArrays_fill16 st x1) : W p l e rm_cArrays_fill16 s m args below meth c H locs 0 0 (MQ below (cQv (gD g) vwCl (cty g) (cw g) A X) args s 0 0 A) (F0 m 0 ls []) := by
  obtain ⟨hx, hb, hr, hml, hown, hts, hlocks, hK, hA, hZ, hzo⟩ := id C
  unfold cArrays_fill16 at hF
  refine lv_iconst (v := (0 : Int32)) hx hb dJ7_fill_53178_0 (by decide) ?_
  refine lv_istore_n (lv' := [(2, .int (0 : Int32)), (0, .ref (gad g 16)), (1, .int x1)]) hx hb dJ7_fill_53178_1 rfl hl (by decide) rfl (fun ls hl => ?_)
  refine lv_aload_n hx hb dJ7_fill_53178_2 rfl (lv_at hl 1 rfl) ?_
  refine va_alen (v := (16 : Int32)) hx hb hK hI.1 16 6 rfl rfl rfl dJ7_fill_53178_3 ?_
  refine lv_istore_n (lv' := [(3, .int (16 : Int32)), (2, .int (0 : Int32)), (0, .ref (gad g 16)), (1, .int x1)]) hx hb dJ7_fill_53178_4 rfl hl (by decide) rfl (fun ls hl => ?_)
  exact k_cArrays_fill16_b5t g C st x1 (0 : Int32) (16 : Int32) H locs ls hI (lv_sub hl [2, 3, 1, 0] rfl) ⟨0, Nat.zero_le _, rfl, rfl⟩ X hF
set_option maxHeartbeats 4000000 in
set_option maxRecDepth 100000 in
theorem c_cArrays_fill16 (l : Launch) (g : Gm) (st : CS) (x1 : Int32) : Mv l yJ7_fill_53178 wq_J7_fill_53178 rm_cArrays_fill16 (gD g) vwCl (cty g) (cw g) (cz g) [.ref (gad g 16), .int x1] st (cArrays_fill16 st x1) := by
  intro sz
  refine Met.ofW (cc := cJ7_fill_53178) (maxL := 4) (ret := none) (by decide) rfl ?_
  intro p e s m args below meth c s₁ B hml hv
  obtain ⟨rfl, hsz, hP, hK, hD0, hZ⟩ := hv
  subst hsz
  have hl := lv_entry ([.ref (gad g 16), .int x1]) (n := 4) (Nat.le_of_ble_eq_true rfl)
  rw [lg_entry_eq]
  generalize (lg_sl ([.ref (gad g 16), .int x1]) ++ List.replicate (4 - (lg_sl ([.ref (gad g 16), .int x1])).length) Slot.unset).toArray = ls at hl ⊢
  exact k_cArrays_fill16 g ⟨B.exec, B.bytes, B.returns, hml, findClass_of_methodNamed B.named, atoms_spec (ws := wq_J7_fill_53178) B.pre, B.notSynchronized, hK, fun q h => Or.inr h, hZ, cz_ok g⟩ st x1 _ _ ls ⟨hP, hD0.self, va_S.rf⟩ hl _ rfl
theorem r_cArrays_fill16 (st : CS) (x1 : Int32) : cArrays_fill16 st x1 = fillS 6 st 0 16 x1 := by
  show (cArrays_fill16_b5 (17) st x1 (nI 0) (nI 16)).getD st = _
  rw [u_cArrays_fill16 x1 _ 0 st (Nat.zero_le _) (by decide)]
  rfl
abbrev wq_X7_begin : List Cond := .code yX7_begin cX7_begin 1 none :: wAll
theorem yd_yX7_begin : yX7_begin.cls = RX7 ∧ yX7_begin.cls ≠ "java/lang/invoke/MethodHandle" ∧ yX7_begin.cls ≠ "java/lang/invoke/VarHandle" ∧ (parseMethodDescriptor yX7_begin.desc).map (fun d => d.parameters.length) = some 0 := by decide +kernel
abbrev rm_cScreen_begin : Room := { frames := 1, cells := 0, slots := 0, locals := 23 }
def cScreen_begin_b8 (st : CS) : CS := (sI (sI (sI (sI (sI (sI (sI st 24 (0 : Int32)) 25 (0 : Int32)) 26 (0 : Int32)) 27 (0 : Int32)) 28 (0 : Int32)) 29 (0 : Int32)) 30 (20000 : Int32))
set_option maxHeartbeats 4000000 in
set_option maxRecDepth 100000 in
theorem k_cScreen_begin_b8 {p : Program} {l : Launch} {e : Env} {s : State} {m : MethodId} {args : Array Value} {below : List Frame} {meth : Method} {c : Code} {A : Nat → Prop} (g : Gm) (C : cX p s m args meth c A cX7_begin none 1 RX7 wq_X7_begin (gD g) vwCl (cty g) (cz g)) (st : CS) (H : Heap) (locs : List Loc) (ls : Array Slot) (hI : cI (gD g) vwCl (cw g) A s st H locs) (hl : lv_has ls 1 [(0, .ref (gad g 15))]) (X : CS) (hF : X = cScreen_begin_b8 st ) : W p l e rm_cScreen_begin s m args below meth c H locs 0 0 (MQ below (cQv (gD g) vwCl (cty g) (cw g) A X) args s 0 0 A) (F0 m 8 ls []) := by
  obtain ⟨hx, hb, hr, hml, hown, hts, hlocks, hK, hA, hZ, hzo⟩ := id C
  unfold cScreen_begin_b8 at hF
  refine lv_aload_n hx hb dX7_begin_8 rfl (lv_at hl 0 rfl) ?_
  refine lv_iconst (v := (0 : Int32)) hx hb dX7_begin_9 (by decide) ?_
  refine va_put (D := gD g) (ci := 7) (C := RX7) (T := TX7) (N := 12) (v := .int (0 : Int32)) (ty := .int) hx hb hts (fun w h => List.mem_cons_of_mem _ (isX70 w h)) tyX7 tyX7_ok nmX7 hown hK hI.1 hI.2.1 hI.2.2 15 rfl rfl 4 (by decide) (hts _ (List.mem_cons_of_mem _ mw174)) (fun _ h9 => h9) rfl (by decide +kernel) rfl rfl (Nat.le_of_ble_eq_true rfl) dX7_begin_10 (fun H locs hP hD hS => ?_)
  have hI : cI (gD g) vwCl (cw g) A s (sI st 24 (0 : Int32)) H locs := ⟨hP, hD, hS⟩
  refine lv_aload_n hx hb dX7_begin_13 rfl (lv_at hl 0 rfl) ?_
  refine lv_iconst (v := (0 : Int32)) hx hb dX7_begin_14 (by decide) ?_
  refine va_put (D := gD g) (ci := 7) (C := RX7) (T := TX7) (N := 12) (v := .int (0 : Int32)) (ty := .int) hx hb hts (fun w h => List.mem_cons_of_mem _ (isX70 w h)) tyX7 tyX7_ok nmX7 hown hK hI.1 hI.2.1 hI.2.2 15 rfl rfl 5 (by decide) (hts _ (List.mem_cons_of_mem _ mw175)) (fun _ h9 => h9) rfl (by decide +kernel) rfl rfl (Nat.le_of_ble_eq_true rfl) dX7_begin_15 (fun H locs hP hD hS => ?_)
  have hI : cI (gD g) vwCl (cw g) A s (sI (sI st 24 (0 : Int32)) 25 (0 : Int32)) H locs := ⟨hP, hD, hS⟩
  refine lv_aload_n hx hb dX7_begin_18 rfl (lv_at hl 0 rfl) ?_
  refine lv_iconst (v := (0 : Int32)) hx hb dX7_begin_19 (by decide) ?_
  refine va_put (D := gD g) (ci := 7) (C := RX7) (T := TX7) (N := 12) (v := .int (0 : Int32)) (ty := .int) hx hb hts (fun w h => List.mem_cons_of_mem _ (isX70 w h)) tyX7 tyX7_ok nmX7 hown hK hI.1 hI.2.1 hI.2.2 15 rfl rfl 6 (by decide) (hts _ (List.mem_cons_of_mem _ mw176)) (fun _ h9 => h9) rfl (by decide +kernel) rfl rfl (Nat.le_of_ble_eq_true rfl) dX7_begin_20 (fun H locs hP hD hS => ?_)
  have hI : cI (gD g) vwCl (cw g) A s (sI (sI (sI st 24 (0 : Int32)) 25 (0 : Int32)) 26 (0 : Int32)) H locs := ⟨hP, hD, hS⟩
  refine lv_aload_n hx hb dX7_begin_23 rfl (lv_at hl 0 rfl) ?_
  refine lv_iconst (v := (0 : Int32)) hx hb dX7_begin_24 (by decide) ?_
  refine va_put (D := gD g) (ci := 7) (C := RX7) (T := TX7) (N := 12) (v := .int (0 : Int32)) (ty := .int) hx hb hts (fun w h => List.mem_cons_of_mem _ (isX70 w h)) tyX7 tyX7_ok nmX7 hown hK hI.1 hI.2.1 hI.2.2 15 rfl rfl 7 (by decide) (hts _ (List.mem_cons_of_mem _ mw177)) (fun _ h9 => h9) rfl (by decide +kernel) rfl rfl (Nat.le_of_ble_eq_true rfl) dX7_begin_25 (fun H locs hP hD hS => ?_)
  have hI : cI (gD g) vwCl (cw g) A s (sI (sI (sI (sI st 24 (0 : Int32)) 25 (0 : Int32)) 26 (0 : Int32)) 27 (0 : Int32)) H locs := ⟨hP, hD, hS⟩
  refine lv_aload_n hx hb dX7_begin_28 rfl (lv_at hl 0 rfl) ?_
  refine lv_iconst (v := (0 : Int32)) hx hb dX7_begin_29 (by decide) ?_
  refine va_put (D := gD g) (ci := 7) (C := RX7) (T := TX7) (N := 12) (v := .int (0 : Int32)) (ty := .int) hx hb hts (fun w h => List.mem_cons_of_mem _ (isX70 w h)) tyX7 tyX7_ok nmX7 hown hK hI.1 hI.2.1 hI.2.2 15 rfl rfl 8 (by decide) (hts _ (List.mem_cons_of_mem _ mw178)) (fun _ h9 => h9) rfl (by decide +kernel) rfl rfl (Nat.le_of_ble_eq_true rfl) dX7_begin_30 (fun H locs hP hD hS => ?_)
  have hI : cI (gD g) vwCl (cw g) A s (sI (sI (sI (sI (sI st 24 (0 : Int32)) 25 (0 : Int32)) 26 (0 : Int32)) 27 (0 : Int32)) 28 (0 : Int32)) H locs := ⟨hP, hD, hS⟩
  refine lv_aload_n hx hb dX7_begin_33 rfl (lv_at hl 0 rfl) ?_
  refine lv_iconst (v := (0 : Int32)) hx hb dX7_begin_34 (by decide) ?_
  refine va_put (D := gD g) (ci := 7) (C := RX7) (T := TX7) (N := 12) (v := .int (0 : Int32)) (ty := .int) hx hb hts (fun w h => List.mem_cons_of_mem _ (isX70 w h)) tyX7 tyX7_ok nmX7 hown hK hI.1 hI.2.1 hI.2.2 15 rfl rfl 9 (by decide) (hts _ (List.mem_cons_of_mem _ mw179)) (fun _ h9 => h9) rfl (by decide +kernel) rfl rfl (Nat.le_of_ble_eq_true rfl) dX7_begin_35 (fun H locs hP hD hS => ?_)
  have hI : cI (gD g) vwCl (cw g) A s (sI (sI (sI (sI (sI (sI st 24 (0 : Int32)) 25 (0 : Int32)) 26 (0 : Int32)) 27 (0 : Int32)) 28 (0 : Int32)) 29 (0 : Int32)) H locs := ⟨hP, hD, hS⟩
  refine lv_aload_n hx hb dX7_begin_38 rfl (lv_at hl 0 rfl) ?_
  refine lv_sipush (v := (20000 : Int32)) hx hb dX7_begin_39 (by decide) ?_
  refine va_put (D := gD g) (ci := 7) (C := RX7) (T := TX7) (N := 12) (v := .int (20000 : Int32)) (ty := .int) hx hb hts (fun w h => List.mem_cons_of_mem _ (isX70 w h)) tyX7 tyX7_ok nmX7 hown hK hI.1 hI.2.1 hI.2.2 15 rfl rfl 10 (by decide) (hts _ (List.mem_cons_of_mem _ mw180)) (fun _ h9 => h9) rfl (by decide +kernel) rfl rfl (Nat.le_of_ble_eq_true rfl) dX7_begin_42 (fun H locs hP hD hS => ?_)
  have hI : cI (gD g) vwCl (cw g) A s (sI (sI (sI (sI (sI (sI (sI st 24 (0 : Int32)) 25 (0 : Int32)) 26 (0 : Int32)) 27 (0 : Int32)) 28 (0 : Int32)) 29 (0 : Int32)) 30 (20000 : Int32)) H locs := ⟨hP, hD, hS⟩
  exact cx_vret C hI hF dX7_begin_45
def cScreen_begin (st : CS) : CS := (cScreen_begin_b8 (cArrays_fill16 st (0 : Int32)) )
set_option maxHeartbeats 4000000 in
set_option maxRecDepth 100000 in
theorem k_cScreen_begin {p : Program} {l : Launch} {e : Env} {s : State} {m : MethodId} {args : Array Value} {below : List Frame} {meth : Method} {c : Code} {A : Nat → Prop} (g : Gm) (C : cX p s m args meth c A cX7_begin none 1 RX7 wq_X7_begin (gD g) vwCl (cty g) (cz g)) (st : CS) (H : Heap) (locs : List Loc) (ls : Array Slot) (hI : cI (gD g) vwCl (cw g) A s st H locs) (hl : lv_has ls 1 [(0, .ref (gad g 15))]) (X : CS) (hF : X = cScreen_begin st) : W p l e rm_cScreen_begin s m args below meth c H locs 0 0 (MQ below (cQv (gD g) vwCl (cty g) (cw g) A X) args s 0 0 A) (F0 m 0 ls []) := by
  obtain ⟨hx, hb, hr, hml, hown, hts, hlocks, hK, hA, hZ, hzo⟩ := id C
  unfold cScreen_begin at hF
  refine lv_aload_n hx hb dX7_begin_0 rfl (lv_at hl 0 rfl) ?_
  refine va_get (D := gD g) (ci := 7) (C := RX7) (T := TX7) (N := 12) (v := .ref (gad g 16)) hx hb hts (fun w h => List.mem_cons_of_mem _ (isX70 w h)) hown hK hI.1 15 rfl rfl 2 (by decide) (hts _ (List.mem_cons_of_mem _ mw93)) (fun _ h9 => h9) rfl dX7_begin_1 ?_
  refine lv_iconst (v := (0 : Int32)) hx hb dX7_begin_4 (by decide) ?_
  refine cx_Sv (As := [.ref (gad g 16), .int (0 : Int32)]) (rest := []) C (c_cArrays_fill16 l g st (0 : Int32)) (va_cwS 2 hts (gd_S _ mw181 mw125 mw126 mw127) rfl rfl rfl yd_yJ7_fill_53178 ⟨Nat.le_of_ble_eq_true rfl, Nat.le_of_ble_eq_true rfl⟩) hI rfl hl.1 rfl (Nat.le_of_ble_eq_true rfl) dX7_begin_5 (fun H locs hI => ?_)
  exact k_cScreen_begin_b8 g C (cArrays_fill16 st (0 : Int32))  H locs ls hI (lv_sub hl [0] rfl) X hF
set_option maxHeartbeats 4000000 in
set_option maxRecDepth 100000 in
theorem c_cScreen_begin (l : Launch) (g : Gm) (st : CS) : Mv l yX7_begin wq_X7_begin rm_cScreen_begin (gD g) vwCl (cty g) (cw g) (cz g) [.ref (gad g 15)] st (cScreen_begin st) := by
  intro sz
  refine Met.ofW (cc := cX7_begin) (maxL := 1) (ret := none) (by decide) rfl ?_
  intro p e s m args below meth c s₁ B hml hv
  obtain ⟨rfl, hsz, hP, hK, hD0, hZ⟩ := hv
  subst hsz
  have hl := lv_entry ([.ref (gad g 15)]) (n := 1) (Nat.le_of_ble_eq_true rfl)
  rw [lg_entry_eq]
  generalize (lg_sl ([.ref (gad g 15)]) ++ List.replicate (1 - (lg_sl ([.ref (gad g 15)])).length) Slot.unset).toArray = ls at hl ⊢
  exact k_cScreen_begin g ⟨B.exec, B.bytes, B.returns, hml, findClass_of_methodNamed B.named, atoms_spec (ws := wq_X7_begin) B.pre, B.notSynchronized, hK, fun q h => Or.inr h, hZ, cz_ok g⟩ st  _ _ ls ⟨hP, hD0.self, va_S.rf⟩ hl _ rfl
abbrev wq_X7_colourOf : List Cond := .code yX7_colourOf cX7_colourOf 2 (some .int) :: wAll
theorem yd_yX7_colourOf : yX7_colourOf.cls = RX7 ∧ yX7_colourOf.cls ≠ "java/lang/invoke/MethodHandle" ∧ yX7_colourOf.cls ≠ "java/lang/invoke/VarHandle" ∧ (parseMethodDescriptor yX7_colourOf.desc).map (fun d => d.parameters.length) = some 1 := by decide +kernel
abbrev rm_cScreen_colourOf : Room := { frames := 0, cells := 0, slots := 0, locals := 0 }
def cScreen_colourOf (st : CS) (x1 : Int32) : Int32 := ((gA st 6) (x1 &&& (15 : Int32)).toNatClampNeg)
set_option maxHeartbeats 4000000 in
set_option maxRecDepth 100000 in
theorem k_cScreen_colourOf {p : Program} {l : Launch} {e : Env} {s : State} {m : MethodId} {args : Array Value} {below : List Frame} {meth : Method} {c : Code} {A : Nat → Prop} (g : Gm) (C : cX p s m args meth c A cX7_colourOf (some .int) 2 RX7 wq_X7_colourOf (gD g) vwCl (cty g) (cz g)) (st : CS) (x1 : Int32) (H : Heap) (locs : List Loc) (ls : Array Slot) (hI : cI (gD g) vwCl (cw g) A s st H locs) (hl : lv_has ls 2 [(0, .ref (gad g 15)), (1, .int x1)]) (X : Int32) (hF : X = cScreen_colourOf st x1) : W p l e rm_cScreen_colourOf s m args below meth c H locs 0 0 (MQ below (cQi (gD g) vwCl (cty g) (cw g) A st X) args s 0 0 A) (F0 m 0 ls []) := by
  obtain ⟨hx, hb, hr, hml, hown, hts, hlocks, hK, hA, hZ, hzo⟩ := id C
  unfold cScreen_colourOf at hF
  refine lv_aload_n hx hb dX7_colourOf_0 rfl (lv_at hl 0 rfl) ?_
  refine va_get (D := gD g) (ci := 7) (C := RX7) (T := TX7) (N := 12) (v := .ref (gad g 16)) hx hb hts (fun w h => List.mem_cons_of_mem _ (isX70 w h)) hown hK hI.1 15 rfl rfl 2 (by decide) (hts _ (List.mem_cons_of_mem _ mw93)) (fun _ h9 => h9) rfl dX7_colourOf_1 ?_
  refine lv_iload_n hx hb dX7_colourOf_4 rfl (lv_at hl 1 rfl) ?_
  refine lv_bipush (v := (15 : Int32)) hx hb dX7_colourOf_5 (by decide) ?_
  refine lv_iand hx hb dX7_colourOf_7 ?_
  refine va_iald (f := (gA st 6)) hx hb hK hI.1 16 6 rfl rfl (vin_and _ 4 rfl (by decide) (by decide)) dX7_colourOf_8 ?_
  exact cx_iret C hI rfl hF dX7_colourOf_9
set_option maxHeartbeats 4000000 in
set_option maxRecDepth 100000 in
theorem c_cScreen_colourOf (l : Launch) (g : Gm) (st : CS) (x1 : Int32) : Mi l yX7_colourOf wq_X7_colourOf rm_cScreen_colourOf (gD g) vwCl (cty g) (cw g) (cz g) [.ref (gad g 15), .int x1] st st (cScreen_colourOf st x1) := by
  intro sz
  refine Met.ofW (cc := cX7_colourOf) (maxL := 2) (ret := (some .int)) (by decide) rfl ?_
  intro p e s m args below meth c s₁ B hml hv
  obtain ⟨rfl, hsz, hP, hK, hD0, hZ⟩ := hv
  subst hsz
  have hl := lv_entry ([.ref (gad g 15), .int x1]) (n := 2) (Nat.le_of_ble_eq_true rfl)
  rw [lg_entry_eq]
  generalize (lg_sl ([.ref (gad g 15), .int x1]) ++ List.replicate (2 - (lg_sl ([.ref (gad g 15), .int x1])).length) Slot.unset).toArray = ls at hl ⊢
  exact k_cScreen_colourOf g ⟨B.exec, B.bytes, B.returns, hml, findClass_of_methodNamed B.named, atoms_spec (ws := wq_X7_colourOf) B.pre, B.notSynchronized, hK, fun q h => Or.inr h, hZ, cz_ok g⟩ st x1 _ _ ls ⟨hP, hD0.self, va_S.rf⟩ hl _ rfl
abbrev wq_X7_placeOf : List Cond := .code yX7_placeOf cX7_placeOf 2 (some .int) :: wAll
theorem yd_yX7_placeOf : yX7_placeOf.cls = RX7 ∧ yX7_placeOf.cls ≠ "java/lang/invoke/MethodHandle" ∧ yX7_placeOf.cls ≠ "java/lang/invoke/VarHandle" ∧ (parseMethodDescriptor yX7_placeOf.desc).map (fun d => d.parameters.length) = some 1 := by decide +kernel
abbrev rm_cScreen_placeOf : Room := { frames := 0, cells := 0, slots := 0, locals := 0 }
def cScreen_placeOf (st : CS) (x1 : Int32) : Int32 := ((gA st 7) (x1 &&& (2047 : Int32)).toNatClampNeg)
set_option maxHeartbeats 4000000 in
set_option maxRecDepth 100000 in
theorem k_cScreen_placeOf {p : Program} {l : Launch} {e : Env} {s : State} {m : MethodId} {args : Array Value} {below : List Frame} {meth : Method} {c : Code} {A : Nat → Prop} (g : Gm) (C : cX p s m args meth c A cX7_placeOf (some .int) 2 RX7 wq_X7_placeOf (gD g) vwCl (cty g) (cz g)) (st : CS) (x1 : Int32) (H : Heap) (locs : List Loc) (ls : Array Slot) (hI : cI (gD g) vwCl (cw g) A s st H locs) (hl : lv_has ls 2 [(0, .ref (gad g 15)), (1, .int x1)]) (X : Int32) (hF : X = cScreen_placeOf st x1) : W p l e rm_cScreen_placeOf s m args below meth c H locs 0 0 (MQ below (cQi (gD g) vwCl (cty g) (cw g) A st X) args s 0 0 A) (F0 m 0 ls []) := by
  obtain ⟨hx, hb, hr, hml, hown, hts, hlocks, hK, hA, hZ, hzo⟩ := id C
  unfold cScreen_placeOf at hF
  refine lv_aload_n hx hb dX7_placeOf_0 rfl (lv_at hl 0 rfl) ?_
  refine va_get (D := gD g) (ci := 7) (C := RX7) (T := TX7) (N := 12) (v := .ref (gad g 17)) hx hb hts (fun w h => List.mem_cons_of_mem _ (isX70 w h)) hown hK hI.1 15 rfl rfl 3 (by decide) (hts _ (List.mem_cons_of_mem _ mw94)) (fun _ h9 => h9) rfl dX7_placeOf_1 ?_
  refine lv_iload_n hx hb dX7_placeOf_4 rfl (lv_at hl 1 rfl) ?_
  refine lv_sipush (v := (2047 : Int32)) hx hb dX7_placeOf_5 (by decide) ?_
  refine lv_iand hx hb dX7_placeOf_8 ?_
  refine va_iald (f := (gA st 7)) hx hb hK hI.1 17 7 rfl rfl (vin_and _ 11 rfl (by decide) (by decide)) dX7_placeOf_9 ?_
  exact cx_iret C hI rfl hF dX7_placeOf_10
set_option maxHeartbeats 4000000 in
set_option maxRecDepth 100000 in
theorem c_cScreen_placeOf (l : Launch) (g : Gm) (st : CS) (x1 : Int32) : Mi l yX7_placeOf wq_X7_placeOf rm_cScreen_placeOf (gD g) vwCl (cty g) (cw g) (cz g) [.ref (gad g 15), .int x1] st st (cScreen_placeOf st x1) := by
  intro sz
  refine Met.ofW (cc := cX7_placeOf) (maxL := 2) (ret := (some .int)) (by decide) rfl ?_
  intro p e s m args below meth c s₁ B hml hv
  obtain ⟨rfl, hsz, hP, hK, hD0, hZ⟩ := hv
  subst hsz
  have hl := lv_entry ([.ref (gad g 15), .int x1]) (n := 2) (Nat.le_of_ble_eq_true rfl)
  rw [lg_entry_eq]
  generalize (lg_sl ([.ref (gad g 15), .int x1]) ++ List.replicate (2 - (lg_sl ([.ref (gad g 15), .int x1])).length) Slot.unset).toArray = ls at hl ⊢
  exact k_cScreen_placeOf g ⟨B.exec, B.bytes, B.returns, hml, findClass_of_methodNamed B.named, atoms_spec (ws := wq_X7_placeOf) B.pre, B.notSynchronized, hK, fun q h => Or.inr h, hZ, cz_ok g⟩ st x1 _ _ ls ⟨hP, hD0.self, va_S.rf⟩ hl _ rfl
abbrev wq_X7_written : List Cond := .code yX7_written cX7_written 3 none :: wAll
theorem yd_yX7_written : yX7_written.cls = RX7 ∧ yX7_written.cls ≠ "java/lang/invoke/MethodHandle" ∧ yX7_written.cls ≠ "java/lang/invoke/VarHandle" ∧ (parseMethodDescriptor yX7_written.desc).map (fun d => d.parameters.length) = some 1 := by decide +kernel
abbrev rm_cScreen_written : Room := { frames := 0, cells := 0, slots := 0, locals := 0 }
def cScreen_written (st : CS) (x1 : Int32) : CS := (if ((16 : Int32) ≤ (ushr x1 (26 : Int32))) then (if ((ushr x1 (26 : Int32)) = (16 : Int32)) then (sI st 24 (x1 &&& (8191 : Int32))) else (if ((ushr x1 (26 : Int32)) = (56 : Int32)) then (sI st 25 ((ushr x1 (2 : Int32)) &&& (3 : Int32))) else st)) else (sA st 6 (upd (gA st 6) (ushr x1 (26 : Int32)).toNatClampNeg (x1 &&& (8191 : Int32)))))
set_option maxHeartbeats 4000000 in
set_option maxRecDepth 100000 in
theorem k_cScreen_written {p : Program} {l : Launch} {e : Env} {s : State} {m : MethodId} {args : Array Value} {below : List Frame} {meth : Method} {c : Code} {A : Nat → Prop} (g : Gm) (C : cX p s m args meth c A cX7_written none 3 RX7 wq_X7_written (gD g) vwCl (cty g) (cz g)) (st : CS) (x1 : Int32) (H : Heap) (locs : List Loc) (ls : Array Slot) (hI : cI (gD g) vwCl (cw g) A s st H locs) (hl : lv_has ls 3 [(0, .ref (gad g 15)), (1, .int x1)]) (X : CS) (hF : X = cScreen_written st x1) : W p l e rm_cScreen_written s m args below meth c H locs 0 0 (MQ below (cQv (gD g) vwCl (cty g) (cw g) A X) args s 0 0 A) (F0 m 0 ls []) := by
  obtain ⟨hx, hb, hr, hml, hown, hts, hlocks, hK, hA, hZ, hzo⟩ := id C
  unfold cScreen_written at hF
  refine lv_iload_n hx hb dX7_written_0 rfl (lv_at hl 1 rfl) ?_
  refine lv_bipush (v := (26 : Int32)) hx hb dX7_written_1 (by decide) ?_
  refine lv_iushr (v := (ushr x1 (26 : Int32))) hx hb dX7_written_3 rfl ?_
  refine lv_istore_n (lv' := [(2, .int (ushr x1 (26 : Int32))), (0, .ref (gad g 15)), (1, .int x1)]) hx hb dX7_written_4 rfl hl (by decide) rfl (fun ls hl => ?_)
  refine lv_iload_n hx hb dX7_written_5 rfl (lv_at hl 0 rfl) ?_
  refine lv_bipush (v := (16 : Int32)) hx hb dX7_written_6 (by decide) ?_
  refine lv_icmp_ge (tgt := 25) hx hb dX7_written_8 (by decide) (fun c_8 => ?_) (fun c_8 => ?_)
  · have hF := hF.trans (if_pos c_8)
    refine lv_iload_n hx hb dX7_written_25 rfl (lv_at hl 0 rfl) ?_
    refine lv_bipush (v := (16 : Int32)) hx hb dX7_written_26 (by decide) ?_
    refine lv_icmp_ne (tgt := 43) hx hb dX7_written_28 (by decide) (fun c_28 => ?_) (fun c_28 => ?_)
    · have hF := hF.trans (if_neg c_28)
      refine lv_iload_n hx hb dX7_written_43 rfl (lv_at hl 0 rfl) ?_
      refine lv_bipush (v := (56 : Int32)) hx hb dX7_written_44 (by decide) ?_
      refine lv_icmp_ne (tgt := 58) hx hb dX7_written_46 (by decide) (fun c_46 => ?_) (fun c_46 => ?_)
      · have hF := hF.trans (if_neg c_46)
        exact cx_vret C hI hF dX7_written_58
      · have hF := hF.trans (if_pos c_46)
        refine lv_aload_n hx hb dX7_written_49 rfl (lv_at hl 1 rfl) ?_
        refine lv_iload_n hx hb dX7_written_50 rfl (lv_at hl 2 rfl) ?_
        refine lv_iconst (v := (2 : Int32)) hx hb dX7_written_51 (by decide) ?_
        refine lv_iushr (v := (ushr x1 (2 : Int32))) hx hb dX7_written_52 rfl ?_
        refine lv_iconst (v := (3 : Int32)) hx hb dX7_written_53 (by decide) ?_
        refine lv_iand hx hb dX7_written_54 ?_
        refine va_put (D := gD g) (ci := 7) (C := RX7) (T := TX7) (N := 12) (v := .int ((ushr x1 (2 : Int32)) &&& (3 : Int32))) (ty := .int) hx hb hts (fun w h => List.mem_cons_of_mem _ (isX70 w h)) tyX7 tyX7_ok nmX7 hown hK hI.1 hI.2.1 hI.2.2 15 rfl rfl 5 (by decide) (hts _ (List.mem_cons_of_mem _ mw175)) (fun _ h9 => h9) rfl (by decide +kernel) rfl rfl (Nat.le_of_ble_eq_true rfl) dX7_written_55 (fun H locs hP hD hS => ?_)
        have hI : cI (gD g) vwCl (cw g) A s (sI st 25 ((ushr x1 (2 : Int32)) &&& (3 : Int32))) H locs := ⟨hP, hD, hS⟩
        exact cx_vret C hI hF dX7_written_58
    · have hF := hF.trans (if_pos c_28)
      refine lv_aload_n hx hb dX7_written_31 rfl (lv_at hl 1 rfl) ?_
      refine lv_iload_n hx hb dX7_written_32 rfl (lv_at hl 2 rfl) ?_
      refine lv_sipush (v := (8191 : Int32)) hx hb dX7_written_33 (by decide) ?_
      refine lv_iand hx hb dX7_written_36 ?_
      refine va_put (D := gD g) (ci := 7) (C := RX7) (T := TX7) (N := 12) (v := .int (x1 &&& (8191 : Int32))) (ty := .int) hx hb hts (fun w h => List.mem_cons_of_mem _ (isX70 w h)) tyX7 tyX7_ok nmX7 hown hK hI.1 hI.2.1 hI.2.2 15 rfl rfl 4 (by decide) (hts _ (List.mem_cons_of_mem _ mw174)) (fun _ h9 => h9) rfl (by decide +kernel) rfl rfl (Nat.le_of_ble_eq_true rfl) dX7_written_37 (fun H locs hP hD hS => ?_)
      have hI : cI (gD g) vwCl (cw g) A s (sI st 24 (x1 &&& (8191 : Int32))) H locs := ⟨hP, hD, hS⟩
      refine lv_goto (tgt := 58) hx hb dX7_written_40 (by decide) ?_
      exact cx_vret C hI hF dX7_written_58
  · have hF := hF.trans (if_neg c_8)
    refine lv_aload_n hx hb dX7_written_11 rfl (lv_at hl 1 rfl) ?_
    refine va_get (D := gD g) (ci := 7) (C := RX7) (T := TX7) (N := 12) (v := .ref (gad g 16)) hx hb hts (fun w h => List.mem_cons_of_mem _ (isX70 w h)) hown hK hI.1 15 rfl rfl 2 (by decide) (hts _ (List.mem_cons_of_mem _ mw93)) (fun _ h9 => h9) rfl dX7_written_12 ?_
    refine lv_iload_n hx hb dX7_written_15 rfl (lv_at hl 0 rfl) ?_
    refine lv_iload_n hx hb dX7_written_16 rfl (lv_at hl 2 rfl) ?_
    refine lv_sipush (v := (8191 : Int32)) hx hb dX7_written_17 (by decide) ?_
    refine lv_iand hx hb dX7_written_20 ?_
    refine va_iast (f := (gA st 6)) hx hb hK hI.1 hI.2.1 hI.2.2 16 6 rfl rfl (vin_u26 x1 c_8) dX7_written_21 (fun H locs hP hD hS => ?_)
    have hI : cI (gD g) vwCl (cw g) A s (sA st 6 (upd (gA st 6) (ushr x1 (26 : Int32)).toNatClampNeg (x1 &&& (8191 : Int32)))) H locs := ⟨hP, hD, hS⟩
    refine lv_goto (tgt := 58) hx hb dX7_written_22 (by decide) ?_
    exact cx_vret C hI hF dX7_written_58
set_option maxHeartbeats 4000000 in
set_option maxRecDepth 100000 in
theorem c_cScreen_written (l : Launch) (g : Gm) (st : CS) (x1 : Int32) : Mv l yX7_written wq_X7_written rm_cScreen_written (gD g) vwCl (cty g) (cw g) (cz g) [.ref (gad g 15), .int x1] st (cScreen_written st x1) := by
  intro sz
  refine Met.ofW (cc := cX7_written) (maxL := 3) (ret := none) (by decide) rfl ?_
  intro p e s m args below meth c s₁ B hml hv
  obtain ⟨rfl, hsz, hP, hK, hD0, hZ⟩ := hv
  subst hsz
  have hl := lv_entry ([.ref (gad g 15), .int x1]) (n := 3) (Nat.le_of_ble_eq_true rfl)
  rw [lg_entry_eq]
  generalize (lg_sl ([.ref (gad g 15), .int x1]) ++ List.replicate (3 - (lg_sl ([.ref (gad g 15), .int x1])).length) Slot.unset).toArray = ls at hl ⊢
  exact k_cScreen_written g ⟨B.exec, B.bytes, B.returns, hml, findClass_of_methodNamed B.named, atoms_spec (ws := wq_X7_written) B.pre, B.notSynchronized, hK, fun q h => Or.inr h, hZ, cz_ok g⟩ st x1 _ _ ls ⟨hP, hD0.self, va_S.rf⟩ hl _ rfl
abbrev wq_X7_byteAt : List Cond := .code yX7_byteAt cX7_byteAt 2 (some .int) :: wAll
theorem yd_yX7_byteAt : yX7_byteAt.cls = RX7 ∧ yX7_byteAt.cls ≠ "java/lang/invoke/MethodHandle" ∧ yX7_byteAt.cls ≠ "java/lang/invoke/VarHandle" ∧ (parseMethodDescriptor yX7_byteAt.desc).map (fun d => d.parameters.length) = some 1 := by decide +kernel
abbrev rm_cScreen_byteAt : Room := { frames := 0, cells := 0, slots := 0, locals := 0 }
def cScreen_byteAt (st : CS) (x1 : Int32) : Int32 := ((ushr ((gA st 0) ((ushr x1 (2 : Int32)) &&& (16383 : Int32)).toNatClampNeg) ((x1 &&& (3 : Int32)) <<< ((3 : Int32) &&& 31))) &&& (255 : Int32))
set_option maxHeartbeats 4000000 in
set_option maxRecDepth 100000 in
theorem k_cScreen_byteAt {p : Program} {l : Launch} {e : Env} {s : State} {m : MethodId} {args : Array Value} {below : List Frame} {meth : Method} {c : Code} {A : Nat → Prop} (g : Gm) (C : cX p s m args meth c A cX7_byteAt (some .int) 2 RX7 wq_X7_byteAt (gD g) vwCl (cty g) (cz g)) (st : CS) (x1 : Int32) (H : Heap) (locs : List Loc) (ls : Array Slot) (hI : cI (gD g) vwCl (cw g) A s st H locs) (hl : lv_has ls 2 [(0, .ref (gad g 15)), (1, .int x1)]) (X : Int32) (hF : X = cScreen_byteAt st x1) : W p l e rm_cScreen_byteAt s m args below meth c H locs 0 0 (MQ below (cQi (gD g) vwCl (cty g) (cw g) A st X) args s 0 0 A) (F0 m 0 ls []) := by
  obtain ⟨hx, hb, hr, hml, hown, hts, hlocks, hK, hA, hZ, hzo⟩ := id C
  unfold cScreen_byteAt at hF
  refine lv_aload_n hx hb dX7_byteAt_0 rfl (lv_at hl 0 rfl) ?_
  refine va_get (D := gD g) (ci := 7) (C := RX7) (T := TX7) (N := 12) (v := .ref (gad g 1)) hx hb hts (fun w h => List.mem_cons_of_mem _ (isX70 w h)) hown hK hI.1 15 rfl rfl 0 (by decide) (hts _ (List.mem_cons_of_mem _ mw95)) (fun _ h9 => h9) rfl dX7_byteAt_1 ?_
  refine lv_iload_n hx hb dX7_byteAt_4 rfl (lv_at hl 1 rfl) ?_
  refine lv_iconst (v := (2 : Int32)) hx hb dX7_byteAt_5 (by decide) ?_
  refine lv_iushr (v := (ushr x1 (2 : Int32))) hx hb dX7_byteAt_6 rfl ?_
  refine lv_sipush (v := (16383 : Int32)) hx hb dX7_byteAt_7 (by decide) ?_
  refine lv_iand hx hb dX7_byteAt_10 ?_
  refine va_iald (f := (gA st 0)) hx hb hK hI.1 1 0 rfl rfl (vin_and _ 14 rfl (by decide) (by decide)) dX7_byteAt_11 ?_
  refine lv_iload_n hx hb dX7_byteAt_12 rfl (lv_at hl 1 rfl) ?_
  refine lv_iconst (v := (3 : Int32)) hx hb dX7_byteAt_13 (by decide) ?_
  refine lv_iand hx hb dX7_byteAt_14 ?_
  refine lv_iconst (v := (3 : Int32)) hx hb dX7_byteAt_15 (by decide) ?_
  refine lv_ishl hx hb dX7_byteAt_16 ?_
  refine lv_iushr (v := (ushr ((gA st 0) ((ushr x1 (2 : Int32)) &&& (16383 : Int32)).toNatClampNeg) ((x1 &&& (3 : Int32)) <<< ((3 : Int32) &&& 31)))) hx hb dX7_byteAt_17 rfl ?_
  refine lv_sipush (v := (255 : Int32)) hx hb dX7_byteAt_18 (by decide) ?_
  refine lv_iand hx hb dX7_byteAt_21 ?_
  exact cx_iret C hI rfl hF dX7_byteAt_22
set_option maxHeartbeats 4000000 in
set_option maxRecDepth 100000 in
theorem c_cScreen_byteAt (l : Launch) (g : Gm) (st : CS) (x1 : Int32) : Mi l yX7_byteAt wq_X7_byteAt rm_cScreen_byteAt (gD g) vwCl (cty g) (cw g) (cz g) [.ref (gad g 15), .int x1] st st (cScreen_byteAt st x1) := by
  intro sz
  refine Met.ofW (cc := cX7_byteAt) (maxL := 2) (ret := (some .int)) (by decide) rfl ?_
  intro p e s m args below meth c s₁ B hml hv
  obtain ⟨rfl, hsz, hP, hK, hD0, hZ⟩ := hv
  subst hsz
  have hl := lv_entry ([.ref (gad g 15), .int x1]) (n := 2) (Nat.le_of_ble_eq_true rfl)
  rw [lg_entry_eq]
  generalize (lg_sl ([.ref (gad g 15), .int x1]) ++ List.replicate (2 - (lg_sl ([.ref (gad g 15), .int x1])).length) Slot.unset).toArray = ls at hl ⊢
  exact k_cScreen_byteAt g ⟨B.exec, B.bytes, B.returns, hml, findClass_of_methodNamed B.named, atoms_spec (ws := wq_X7_byteAt) B.pre, B.notSynchronized, hK, fun q h => Or.inr h, hZ, cz_ok g⟩ st x1 _ _ ls ⟨hP, hD0.self, va_S.rf⟩ hl _ rfl
abbrev wq_X7_behind : List Cond := .code yX7_behind cX7_behind 3 (some .int) :: wAll
theorem yd_yX7_behind : yX7_behind.cls = RX7 ∧ yX7_behind.cls ≠ "java/lang/invoke/MethodHandle" ∧ yX7_behind.cls ≠ "java/lang/invoke/VarHandle" ∧ (parseMethodDescriptor yX7_behind.desc).map (fun d => d.parameters.length) = some 1 := by decide +kernel
abbrev rm_cScreen_behind : Room := { frames := 0, cells := 0, slots := 0, locals := 0 }
def cScreen_behind (st : CS) (x1 : Int32) : Int32 := (if (x1 = ((((gI st 28) <<< ((4 : Int32) &&& 31)) + (15 : Int32)) &&& (65535 : Int32))) then (((gI st 27) <<< ((4 : Int32) &&& 31)) &&& (65535 : Int32)) else ((x1 + (1 : Int32)) &&& (65535 : Int32)))
set_option maxHeartbeats 4000000 in
set_option maxRecDepth 100000 in
theorem k_cScreen_behind {p : Program} {l : Launch} {e : Env} {s : State} {m : MethodId} {args : Array Value} {below : List Frame} {meth : Method} {c : Code} {A : Nat → Prop} (g : Gm) (C : cX p s m args meth c A cX7_behind (some .int) 3 RX7 wq_X7_behind (gD g) vwCl (cty g) (cz g)) (st : CS) (x1 : Int32) (H : Heap) (locs : List Loc) (ls : Array Slot) (hI : cI (gD g) vwCl (cw g) A s st H locs) (hl : lv_has ls 3 [(0, .ref (gad g 15)), (1, .int x1)]) (X : Int32) (hF : X = cScreen_behind st x1) : W p l e rm_cScreen_behind s m args below meth c H locs 0 0 (MQ below (cQi (gD g) vwCl (cty g) (cw g) A st X) args s 0 0 A) (F0 m 0 ls []) := by
  obtain ⟨hx, hb, hr, hml, hown, hts, hlocks, hK, hA, hZ, hzo⟩ := id C
  unfold cScreen_behind at hF
  refine lv_aload_n hx hb dX7_behind_0 rfl (lv_at hl 0 rfl) ?_
  refine va_get (D := gD g) (ci := 7) (C := RX7) (T := TX7) (N := 12) (v := .int (gI st 28)) hx hb hts (fun w h => List.mem_cons_of_mem _ (isX70 w h)) hown hK hI.1 15 rfl rfl 8 (by decide) (hts _ (List.mem_cons_of_mem _ mw178)) (fun _ h9 => h9) rfl dX7_behind_1 ?_
  refine lv_iconst (v := (4 : Int32)) hx hb dX7_behind_4 (by decide) ?_
  refine lv_ishl hx hb dX7_behind_5 ?_
  refine lv_bipush (v := (15 : Int32)) hx hb dX7_behind_6 (by decide) ?_
  refine lv_iadd hx hb dX7_behind_8 ?_
  refine lv_ldc (v := (65535 : Int32)) hx hb hown (hts _ (List.mem_cons_of_mem _ mw722)) dX7_behind_9 ?_
  refine lv_iand hx hb dX7_behind_11 ?_
  refine lv_istore_n (lv' := [(2, .int ((((gI st 28) <<< ((4 : Int32) &&& 31)) + (15 : Int32)) &&& (65535 : Int32))), (0, .ref (gad g 15)), (1, .int x1)]) hx hb dX7_behind_12 rfl hl (by decide) rfl (fun ls hl => ?_)
  refine lv_iload_n hx hb dX7_behind_13 rfl (lv_at hl 2 rfl) ?_
  refine lv_iload_n hx hb dX7_behind_14 rfl (lv_at hl 0 rfl) ?_
  refine lv_icmp_ne (tgt := 27) hx hb dX7_behind_15 (by decide) (fun c_15 => ?_) (fun c_15 => ?_)
  · have hF := hF.trans (if_neg c_15)
    refine lv_iload_n hx hb dX7_behind_27 rfl (lv_at hl 2 rfl) ?_
    refine lv_iconst (v := (1 : Int32)) hx hb dX7_behind_28 (by decide) ?_
    refine lv_iadd hx hb dX7_behind_29 ?_
    refine lv_ldc (v := (65535 : Int32)) hx hb hown (hts _ (List.mem_cons_of_mem _ mw722)) dX7_behind_30 ?_
    refine lv_iand hx hb dX7_behind_32 ?_
    exact cx_iret C hI rfl hF dX7_behind_33
  · have hF := hF.trans (if_pos c_15)
    refine lv_aload_n hx hb dX7_behind_18 rfl (lv_at hl 1 rfl) ?_
    refine va_get (D := gD g) (ci := 7) (C := RX7) (T := TX7) (N := 12) (v := .int (gI st 27)) hx hb hts (fun w h => List.mem_cons_of_mem _ (isX70 w h)) hown hK hI.1 15 rfl rfl 7 (by decide) (hts _ (List.mem_cons_of_mem _ mw177)) (fun _ h9 => h9) rfl dX7_behind_19 ?_
    refine lv_iconst (v := (4 : Int32)) hx hb dX7_behind_22 (by decide) ?_
    refine lv_ishl hx hb dX7_behind_23 ?_
    refine lv_goto (tgt := 30) hx hb dX7_behind_24 (by decide) ?_
    refine lv_ldc (v := (65535 : Int32)) hx hb hown (hts _ (List.mem_cons_of_mem _ mw722)) dX7_behind_30 ?_
    refine lv_iand hx hb dX7_behind_32 ?_
    exact cx_iret C hI rfl hF dX7_behind_33
set_option maxHeartbeats 4000000 in
set_option maxRecDepth 100000 in
theorem c_cScreen_behind (l : Launch) (g : Gm) (st : CS) (x1 : Int32) : Mi l yX7_behind wq_X7_behind rm_cScreen_behind (gD g) vwCl (cty g) (cw g) (cz g) [.ref (gad g 15), .int x1] st st (cScreen_behind st x1) := by
  intro sz
  refine Met.ofW (cc := cX7_behind) (maxL := 3) (ret := (some .int)) (by decide) rfl ?_
  intro p e s m args below meth c s₁ B hml hv
  obtain ⟨rfl, hsz, hP, hK, hD0, hZ⟩ := hv
  subst hsz
  have hl := lv_entry ([.ref (gad g 15), .int x1]) (n := 3) (Nat.le_of_ble_eq_true rfl)
  rw [lg_entry_eq]
  generalize (lg_sl ([.ref (gad g 15), .int x1]) ++ List.replicate (3 - (lg_sl ([.ref (gad g 15), .int x1])).length) Slot.unset).toArray = ls at hl ⊢
  exact k_cScreen_behind g ⟨B.exec, B.bytes, B.returns, hml, findClass_of_methodNamed B.named, atoms_spec (ws := wq_X7_behind) B.pre, B.notSynchronized, hK, fun q h => Or.inr h, hZ, cz_ok g⟩ st x1 _ _ ls ⟨hP, hD0.self, va_S.rf⟩ hl _ rfl
abbrev wq_X7_makeFromMemory : List Cond := .code yX7_makeFromMemory cX7_makeFromMemory 6 none :: wAll
theorem yd_yX7_makeFromMemory : yX7_makeFromMemory.cls = RX7 ∧ yX7_makeFromMemory.cls ≠ "java/lang/invoke/MethodHandle" ∧ yX7_makeFromMemory.cls ≠ "java/lang/invoke/VarHandle" ∧ (parseMethodDescriptor yX7_makeFromMemory.desc).map (fun d => d.parameters.length) = some 0 := by decide +kernel
abbrev rm_cScreen_makeFromMemory : Room := { frames := 1, cells := 0, slots := 0, locals := 22 }
def cScreen_makeFromMemory_b88 (rec : CS → Int32 → Int32 → Int32 → Int32 → Option (CS)) (st : CS) (x1 : Int32) (x2 : Int32) (x3 : Int32) (x4 : Int32) : Option (CS) := (rec st x1 x2 x3 (x4 + (1 : Int32)))
set_option maxHeartbeats 4000000 in
set_option maxRecDepth 100000 in
theorem k_cScreen_makeFromMemory_b88 {p : Program} {l : Launch} {e : Env} {s : State} {m : MethodId} {args : Array Value} {below : List Frame} {meth : Method} {c : Code} {A : Nat → Prop} (g : Gm) (C : cX p s m args meth c A cX7_makeFromMemory none 6 RX7 wq_X7_makeFromMemory (gD g) vwCl (cty g) (cz g)) (rec : CS → Int32 → Int32 → Int32 → Int32 → Option (CS)) (hrec : ∀ (st : CS) (x1 : Int32) (x2 : Int32) (x3 : Int32) (x4 : Int32) (H : Heap) (locs : List Loc) (ls : Array Slot), cI (gD g) vwCl (cw g) A s st H locs → lv_has ls 6 [(0, .ref (gad g 15)), (1, .int x1), (2, .int x2), (3, .int x3), (4, .int x4)] → up_ok 2048 x4 → ∀ (X : CS), some X = rec st x1 x2 x3 x4 → W p l e rm_cScreen_makeFromMemory s m args below meth c H locs 0 0 (MQ below (cQv (gD g) vwCl (cty g) (cw g) A X) args s 0 0 A) (F0 m 22 ls [])) (st : CS) (x1 : Int32) (x2 : Int32) (x3 : Int32) (x4 : Int32) (H : Heap) (locs : List Loc) (ls : Array Slot) (hI : cI (gD g) vwCl (cw g) A s st H locs) (hl : lv_has ls 6 [(0, .ref (gad g 15)), (1, .int x1), (2, .int x2), (3, .int x3), (4, .int x4)]) (hf : up_ok 2048 (x4 + (1 : Int32))) (X : CS) (hF : some X = cScreen_makeFromMemory_b88 rec st x1 x2 x3 x4) : W p l e rm_cScreen_makeFromMemory s m args below meth c H locs 0 0 (MQ below (cQv (gD g) vwCl (cty g) (cw g) A X) args s 0 0 A) (F0 m 88 ls []) := by
  obtain ⟨hx, hb, hr, hml, hown, hts, hlocks, hK, hA, hZ, hzo⟩ := id C
  unfold cScreen_makeFromMemory_b88 at hF
  refine lv_iinc (v := (x4 + (1 : Int32))) (lv' := [(4, .int (x4 + (1 : Int32))), (0, .ref (gad g 15)), (1, .int x1), (2, .int x2), (3, .int x3)]) hx hb dX7_makeFromMemory_88 hl (k := 4) rfl rfl (by decide) rfl (fun ls hl => ?_)
  refine lv_goto (tgt := 22) hx hb dX7_makeFromMemory_91 (by decide) ?_
  exact hrec st x1 x2 x3 (x4 + (1 : Int32)) H locs ls hI (lv_sub hl [1, 2, 3, 4, 0] rfl) hf X hF
def cScreen_makeFromMemory_b22 : Nat → CS → Int32 → Int32 → Int32 → Int32 → Option (CS)
  | 0, _, _, _, _, _ => none
  | n + 1, st, x1, x2, x3, x4 => (if ((2048 : Int32) ≤ x4) then (some st) else (if ((x3 + x1) = (8 : Int32)) then (cScreen_makeFromMemory_b88 (cScreen_makeFromMemory_b22 n) (sA st 7 (upd (gA st 7) x4.toNatClampNeg (((gA st 6) (((ushr (cScreen_byteAt st x2) x3) &&& (((1 : Int32) <<< (x1 &&& 31)) - (1 : Int32))) &&& (15 : Int32)).toNatClampNeg) ^^^ ((ushr ((ushr (cScreen_byteAt st x2) x3) &&& (((1 : Int32) <<< (x1 &&& 31)) - (1 : Int32))) (4 : Int32)) <<< ((8 : Int32) &&& 31))))) x1 (cScreen_behind (sA st 7 (upd (gA st 7) x4.toNatClampNeg (((gA st 6) (((ushr (cScreen_byteAt st x2) x3) &&& (((1 : Int32) <<< (x1 &&& 31)) - (1 : Int32))) &&& (15 : Int32)).toNatClampNeg) ^^^ ((ushr ((ushr (cScreen_byteAt st x2) x3) &&& (((1 : Int32) <<< (x1 &&& 31)) - (1 : Int32))) (4 : Int32)) <<< ((8 : Int32) &&& 31))))) x2) (0 : Int32) x4) else (cScreen_makeFromMemory_b88 (cScreen_makeFromMemory_b22 n) (sA st 7 (upd (gA st 7) x4.toNatClampNeg (((gA st 6) (((ushr (cScreen_byteAt st x2) x3) &&& (((1 : Int32) <<< (x1 &&& 31)) - (1 : Int32))) &&& (15 : Int32)).toNatClampNeg) ^^^ ((ushr ((ushr (cScreen_byteAt st x2) x3) &&& (((1 : Int32) <<< (x1 &&& 31)) - (1 : Int32))) (4 : Int32)) <<< ((8 : Int32) &&& 31))))) x1 x2 (x3 + x1) x4)))
set_option maxHeartbeats 4000000 in
set_option maxRecDepth 100000 in
theorem k_cScreen_makeFromMemory_b22 {p : Program} {l : Launch} {e : Env} {s : State} {m : MethodId} {args : Array Value} {below : List Frame} {meth : Method} {c : Code} {A : Nat → Prop} (g : Gm) (C : cX p s m args meth c A cX7_makeFromMemory none 6 RX7 wq_X7_makeFromMemory (gD g) vwCl (cty g) (cz g)) : ∀ (n : Nat) (st : CS) (x1 : Int32) (x2 : Int32) (x3 : Int32) (x4 : Int32) (H : Heap) (locs : List Loc) (ls : Array Slot), cI (gD g) vwCl (cw g) A s st H locs → lv_has ls 6 [(0, .ref (gad g 15)), (1, .int x1), (2, .int x2), (3, .int x3), (4, .int x4)] → up_ok 2048 x4 → ∀ (X : CS), some X = cScreen_makeFromMemory_b22 n st x1 x2 x3 x4 → W p l e rm_cScreen_makeFromMemory s m args below meth c H locs 0 0 (MQ below (cQv (gD g) vwCl (cty g) (cw g) A X) args s 0 0 A) (F0 m 22 ls []) := by
  obtain ⟨hx, hb, hr, hml, hown, hts, hlocks, hK, hA, hZ, hzo⟩ := id C
  intro n
  induction n with
  | zero => intro st x1 x2 x3 x4 H locs ls hI hl hf X hF; exact absurd hF (by simp [cScreen_makeFromMemory_b22])
  | succ n ih =>
    intro st x1 x2 x3 x4 H locs ls hI hl hf X hF
    rw [cScreen_makeFromMemory_b22] at hF
    refine lv_iload hx hb dX7_makeFromMemory_22 (lv_at hl 4 rfl) ?_
    refine lv_sipush (v := (2048 : Int32)) hx hb dX7_makeFromMemory_24 (by decide) ?_
    refine lv_icmp_ge (tgt := 94) hx hb dX7_makeFromMemory_27 (by decide) (fun c_27 => ?_) (fun c_27 => ?_)
    · have hF := hF.trans (if_pos c_27)
      have hF := Option.some.inj hF
      exact cx_vret C hI hF dX7_makeFromMemory_94
    · have hF := hF.trans (if_neg c_27)
      refine lv_aload_n hx hb dX7_makeFromMemory_30 rfl (lv_at hl 0 rfl) ?_
      refine lv_iload_n hx hb dX7_makeFromMemory_31 rfl (lv_at hl 2 rfl) ?_
      refine cx_Vi (As := [.int x2]) (rest := []) C (c_cScreen_byteAt l g st x2) (cwV 1 hts (gd_V _ mw723 mw724 mw725 mw38 mw726) rfl rfl rfl yd_yX7_byteAt ⟨Nat.le_of_ble_eq_true rfl, Nat.le_of_ble_eq_true rfl⟩) (va_recv hK hI.1 (ci := 7) (q0 := 15) rfl rfl) hI rfl hl.1 rfl (Nat.le_of_ble_eq_true rfl) dX7_makeFromMemory_32 (fun H locs hI => ?_)
      refine lv_iload_n hx hb dX7_makeFromMemory_35 rfl (lv_at hl 3 rfl) ?_
      refine lv_iushr (v := (ushr (cScreen_byteAt st x2) x3)) hx hb dX7_makeFromMemory_36 rfl ?_
      refine lv_iconst (v := (1 : Int32)) hx hb dX7_makeFromMemory_37 (by decide) ?_
      refine lv_iload_n hx hb dX7_makeFromMemory_38 rfl (lv_at hl 1 rfl) ?_
      refine lv_ishl hx hb dX7_makeFromMemory_39 ?_
      refine lv_iconst (v := (1 : Int32)) hx hb dX7_makeFromMemory_40 (by decide) ?_
      refine lv_isub hx hb dX7_makeFromMemory_41 ?_
      refine lv_iand hx hb dX7_makeFromMemory_42 ?_
      refine lv_istore (lv' := [(5, .int ((ushr (cScreen_byteAt st x2) x3) &&& (((1 : Int32) <<< (x1 &&& 31)) - (1 : Int32)))), (0, .ref (gad g 15)), (1, .int x1), (2, .int x2), (3, .int x3), (4, .int x4)]) hx hb dX7_makeFromMemory_43 hl (by decide) rfl (fun ls hl => ?_)
      refine lv_aload_n hx hb dX7_makeFromMemory_45 rfl (lv_at hl 1 rfl) ?_
      refine va_get (D := gD g) (ci := 7) (C := RX7) (T := TX7) (N := 12) (v := .ref (gad g 17)) hx hb hts (fun w h => List.mem_cons_of_mem _ (isX70 w h)) hown hK hI.1 15 rfl rfl 3 (by decide) (hts _ (List.mem_cons_of_mem _ mw94)) (fun _ h9 => h9) rfl dX7_makeFromMemory_46 ?_
      refine lv_iload hx hb dX7_makeFromMemory_49 (lv_at hl 5 rfl) ?_
      refine lv_aload_n hx hb dX7_makeFromMemory_51 rfl (lv_at hl 1 rfl) ?_
      refine va_get (D := gD g) (ci := 7) (C := RX7) (T := TX7) (N := 12) (v := .ref (gad g 16)) hx hb hts (fun w h => List.mem_cons_of_mem _ (isX70 w h)) hown hK hI.1 15 rfl rfl 2 (by decide) (hts _ (List.mem_cons_of_mem _ mw93)) (fun _ h9 => h9) rfl dX7_makeFromMemory_52 ?_
      refine lv_iload hx hb dX7_makeFromMemory_55 (lv_at hl 0 rfl) ?_
      refine lv_bipush (v := (15 : Int32)) hx hb dX7_makeFromMemory_57 (by decide) ?_
      refine lv_iand hx hb dX7_makeFromMemory_59 ?_
      refine va_iald (f := (gA st 6)) hx hb hK hI.1 16 6 rfl rfl (vin_and _ 4 rfl (by decide) (by decide)) dX7_makeFromMemory_60 ?_
      refine lv_iload hx hb dX7_makeFromMemory_61 (lv_at hl 0 rfl) ?_
      refine lv_iconst (v := (4 : Int32)) hx hb dX7_makeFromMemory_63 (by decide) ?_
      refine lv_iushr (v := (ushr ((ushr (cScreen_byteAt st x2) x3) &&& (((1 : Int32) <<< (x1 &&& 31)) - (1 : Int32))) (4 : Int32))) hx hb dX7_makeFromMemory_64 rfl ?_
      refine lv_bipush (v := (8 : Int32)) hx hb dX7_makeFromMemory_65 (by decide) ?_
      refine lv_ishl hx hb dX7_makeFromMemory_67 ?_
      refine lv_ixor hx hb dX7_makeFromMemory_68 ?_
      refine va_iast (f := (gA st 7)) hx hb hK hI.1 hI.2.1 hI.2.2 17 7 rfl rfl (up_in (by decide) rfl hf c_27) dX7_makeFromMemory_69 (fun H locs hP hD hS => ?_)
      have hI : cI (gD g) vwCl (cw g) A s (sA st 7 (upd (gA st 7) x4.toNatClampNeg (((gA st 6) (((ushr (cScreen_byteAt st x2) x3) &&& (((1 : Int32) <<< (x1 &&& 31)) - (1 : Int32))) &&& (15 : Int32)).toNatClampNeg) ^^^ ((ushr ((ushr (cScreen_byteAt st x2) x3) &&& (((1 : Int32) <<< (x1 &&& 31)) - (1 : Int32))) (4 : Int32)) <<< ((8 : Int32) &&& 31))))) H locs := ⟨hP, hD, hS⟩
      refine lv_iload_n hx hb dX7_makeFromMemory_70 rfl (lv_at hl 4 rfl) ?_
      refine lv_iload_n hx hb dX7_makeFromMemory_71 rfl (lv_at hl 2 rfl) ?_
      refine lv_iadd hx hb dX7_makeFromMemory_72 ?_
      refine lv_istore_n (lv' := [(3, .int (x3 + x1)), (5, .int ((ushr (cScreen_byteAt st x2) x3) &&& (((1 : Int32) <<< (x1 &&& 31)) - (1 : Int32)))), (0, .ref (gad g 15)), (1, .int x1), (2, .int x2), (4, .int x4)]) hx hb dX7_makeFromMemory_73 rfl hl (by decide) rfl (fun ls hl => ?_)
      refine lv_iload_n hx hb dX7_makeFromMemory_74 rfl (lv_at hl 0 rfl) ?_
      refine lv_bipush (v := (8 : Int32)) hx hb dX7_makeFromMemory_75 (by decide) ?_
      refine lv_icmp_ne (tgt := 88) hx hb dX7_makeFromMemory_77 (by decide) (fun c_77 => ?_) (fun c_77 => ?_)
      · have hF := hF.trans (if_neg c_77)
        exact k_cScreen_makeFromMemory_b88 g C (cScreen_makeFromMemory_b22 n) ih (sA st 7 (upd (gA st 7) x4.toNatClampNeg (((gA st 6) (((ushr (cScreen_byteAt st x2) x3) &&& (((1 : Int32) <<< (x1 &&& 31)) - (1 : Int32))) &&& (15 : Int32)).toNatClampNeg) ^^^ ((ushr ((ushr (cScreen_byteAt st x2) x3) &&& (((1 : Int32) <<< (x1 &&& 31)) - (1 : Int32))) (4 : Int32)) <<< ((8 : Int32) &&& 31))))) x1 x2 (x3 + x1) x4 H locs ls hI (lv_sub hl [2, 3, 4, 0, 5] rfl) (up_st (by decide) rfl hf c_27) X hF
      · have hF := hF.trans (if_pos c_77)
        refine lv_iconst (v := (0 : Int32)) hx hb dX7_makeFromMemory_80 (by decide) ?_
        refine lv_istore_n (lv' := [(3, .int (0 : Int32)), (5, .int ((ushr (cScreen_byteAt st x2) x3) &&& (((1 : Int32) <<< (x1 &&& 31)) - (1 : Int32)))), (0, .ref (gad g 15)), (1, .int x1), (2, .int x2), (4, .int x4)]) hx hb dX7_makeFromMemory_81 rfl hl (by decide) rfl (fun ls hl => ?_)
        refine lv_aload_n hx hb dX7_makeFromMemory_82 rfl (lv_at hl 2 rfl) ?_
        refine lv_iload_n hx hb dX7_makeFromMemory_83 rfl (lv_at hl 4 rfl) ?_
        refine cx_Vi (As := [.int x2]) (rest := []) C (c_cScreen_behind l g (sA st 7 (upd (gA st 7) x4.toNatClampNeg (((gA st 6) (((ushr (cScreen_byteAt st x2) x3) &&& (((1 : Int32) <<< (x1 &&& 31)) - (1 : Int32))) &&& (15 : Int32)).toNatClampNeg) ^^^ ((ushr ((ushr (cScreen_byteAt st x2) x3) &&& (((1 : Int32) <<< (x1 &&& 31)) - (1 : Int32))) (4 : Int32)) <<< ((8 : Int32) &&& 31))))) x2) (cwV 1 hts (gd_V _ mw727 mw728 mw729 mw38 mw730) rfl rfl rfl yd_yX7_behind ⟨Nat.le_of_ble_eq_true rfl, Nat.le_of_ble_eq_true rfl⟩) (va_recv hK hI.1 (ci := 7) (q0 := 15) rfl rfl) hI rfl hl.1 rfl (Nat.le_of_ble_eq_true rfl) dX7_makeFromMemory_84 (fun H locs hI => ?_)
        refine lv_istore_n (lv' := [(2, .int (cScreen_behind (sA st 7 (upd (gA st 7) x4.toNatClampNeg (((gA st 6) (((ushr (cScreen_byteAt st x2) x3) &&& (((1 : Int32) <<< (x1 &&& 31)) - (1 : Int32))) &&& (15 : Int32)).toNatClampNeg) ^^^ ((ushr ((ushr (cScreen_byteAt st x2) x3) &&& (((1 : Int32) <<< (x1 &&& 31)) - (1 : Int32))) (4 : Int32)) <<< ((8 : Int32) &&& 31))))) x2)), (3, .int (0 : Int32)), (5, .int ((ushr (cScreen_byteAt st x2) x3) &&& (((1 : Int32) <<< (x1 &&& 31)) - (1 : Int32)))), (0, .ref (gad g 15)), (1, .int x1), (4, .int x4)]) hx hb dX7_makeFromMemory_87 rfl hl (by decide) rfl (fun ls hl => ?_)
        exact k_cScreen_makeFromMemory_b88 g C (cScreen_makeFromMemory_b22 n) ih (sA st 7 (upd (gA st 7) x4.toNatClampNeg (((gA st 6) (((ushr (cScreen_byteAt st x2) x3) &&& (((1 : Int32) <<< (x1 &&& 31)) - (1 : Int32))) &&& (15 : Int32)).toNatClampNeg) ^^^ ((ushr ((ushr (cScreen_byteAt st x2) x3) &&& (((1 : Int32) <<< (x1 &&& 31)) - (1 : Int32))) (4 : Int32)) <<< ((8 : Int32) &&& 31))))) x1 (cScreen_behind (sA st 7 (upd (gA st 7) x4.toNatClampNeg (((gA st 6) (((ushr (cScreen_byteAt st x2) x3) &&& (((1 : Int32) <<< (x1 &&& 31)) - (1 : Int32))) &&& (15 : Int32)).toNatClampNeg) ^^^ ((ushr ((ushr (cScreen_byteAt st x2) x3) &&& (((1 : Int32) <<< (x1 &&& 31)) - (1 : Int32))) (4 : Int32)) <<< ((8 : Int32) &&& 31))))) x2) (0 : Int32) x4 H locs ls hI (lv_sub hl [3, 4, 0, 1, 5] rfl) (up_st (by decide) rfl hf c_27) X hF
def cScreen_makeFromMemory_b22t (st : CS) (x1 : Int32) (x2 : Int32) (x3 : Int32) (x4 : Int32) : CS := (cScreen_makeFromMemory_b22 (2049) st x1 x2 x3 x4).getD st
theorem e_cScreen_makeFromMemory : ∀ (n j : Nat) (st : CS) (x1 x2 x3 : Int32), j ≤ 2048 → 2048 - j < n → ∃ r, cScreen_makeFromMemory_b22 n st x1 x2 x3 (nI j) = some r := by
  intro n
  induction n with
  | zero => intro j st x1 x2 x3 h1 h2; omega
  | succ n ih =>
    intro j st x1 x2 x3 h1 h2
    rw [cScreen_makeFromMemory_b22]
    rcases Nat.lt_or_ge j 2048 with q | q
    · rw [if_neg (show ¬ (2048 : Int32) ≤ nI j from nI_ge q (by decide))]
      unfold cScreen_makeFromMemory_b88
      rw [show nI j + (1 : Int32) = nI (j + 1) from nI_1 j]
      split
      · exact ih (j + 1) _ _ _ _ q (by omega)
      · exact ih (j + 1) _ _ _ _ q (by omega)
    · have e : j = 2048 := by omega
      subst e
      rw [if_pos (show (2048 : Int32) ≤ nI 2048 by decide)]
      exact ⟨_, rfl⟩
theorem t_cScreen_makeFromMemory_b22 (st : CS) (x1 x2 x3 x4 : Int32) (hf : up_ok 2048 x4) : some (cScreen_makeFromMemory_b22t st x1 x2 x3 x4) = cScreen_makeFromMemory_b22 (2049) st x1 x2 x3 x4 := by
  obtain ⟨j, hj, rfl⟩ := hf
  exact some_getD (e_cScreen_makeFromMemory _ j st x1 x2 x3 hj (by omega))
set_option maxHeartbeats 4000000 in
set_option maxRecDepth 100000 in
theorem k_cScreen_makeFromMemory_b22t {p : Program} {l : Launch} {e : Env} {s : State} {m : MethodId} {args : Array Value} {below : List Frame} {meth : Method} {c : Code} {A : Nat → Prop} (g : Gm) (C : cX p s m args meth c A cX7_makeFromMemory none 6 RX7 wq_X7_makeFromMemory (gD g) vwCl (cty g) (cz g)) (st : CS) (x1 : Int32) (x2 : Int32) (x3 : Int32) (x4 : Int32) (H : Heap) (locs : List Loc) (ls : Array Slot) (hI : cI (gD g) vwCl (cw g) A s st H locs) (hl : lv_has ls 6 [(0, .ref (gad g 15)), (1, .int x1), (2, .int x2), (3, .int x3), (4, .int x4)]) (hf : up_ok 2048 x4) (X : CS) (hF : X = cScreen_makeFromMemory_b22t st x1 x2 x3 x4) : W p l e rm_cScreen_makeFromMemory s m args below meth c H locs 0 0 (MQ below (cQv (gD g) vwCl (cty g) (cw g) A X) args s 0 0 A) (F0 m 22 ls []) := by
  refine k_cScreen_makeFromMemory_b22 g C (2049) st x1 x2 x3 x4 H locs ls hI hl hf X ?_
  rw [hF]
  exact t_cScreen_makeFromMemory_b22 st x1 x2 x3 x4 hf
def cScreen_makeFromMemory (st : CS) : CS := (cScreen_makeFromMemory_b22t st ((1 : Int32) <<< ((gI st 25) &&& 31)) (((gI st 26) <<< ((4 : Int32) &&& 31)) &&& (65535 : Int32)) (0 : Int32) (0 : Int32))
set_option maxHeartbeats 4000000 in
set_option maxRecDepth 100000 in
theorem k_cScreen_makeFromMemory {p : Program} {l : Launch} {e : Env} {s : State} {m : MethodId} {args : Array Value} {below : List Frame} {meth : Method} {c : Code} {A : Nat → Prop} (g : Gm) (C : cX p s m args meth c A cX7_makeFromMemory none 6 RX7 wq_X7_makeFromMemory (gD g) vwCl (cty g) (cz g)) (st : CS) (H : Heap) (locs : List Loc) (ls : Array Slot) (hI : cI (gD g) vwCl (cw g) A s st H locs) (hl : lv_has ls 6 [(0, .ref (gad g 15))]) (X : CS) (hF : X = cScreen_makeFromMemory st) : W p l e rm_cScreen_makeFromMemory s m args below meth c H locs 0 0 (MQ below (cQv (gD g) vwCl (cty g) (cw g) A X) args s 0 0 A) (F0 m 0 ls []) := by
  obtain ⟨hx, hb, hr, hml, hown, hts, hlocks, hK, hA, hZ, hzo⟩ := id C
  unfold cScreen_makeFromMemory at hF
  refine lv_iconst (v := (1 : Int32)) hx hb dX7_makeFromMemory_0 (by decide) ?_
  refine lv_aload_n hx hb dX7_makeFromMemory_1 rfl (lv_at hl 0 rfl) ?_
  refine va_get (D := gD g) (ci := 7) (C := RX7) (T := TX7) (N := 12) (v := .int (gI st 25)) hx hb hts (fun w h => List.mem_cons_of_mem _ (isX70 w h)) hown hK hI.1 15 rfl rfl 5 (by decide) (hts _ (List.mem_cons_of_mem _ mw175)) (fun _ h9 => h9) rfl dX7_makeFromMemory_2 ?_
  refine lv_ishl hx hb dX7_makeFromMemory_5 ?_
  refine lv_istore_n (lv' := [(1, .int ((1 : Int32) <<< ((gI st 25) &&& 31))), (0, .ref (gad g 15))]) hx hb dX7_makeFromMemory_6 rfl hl (by decide) rfl (fun ls hl => ?_)
  refine lv_aload_n hx hb dX7_makeFromMemory_7 rfl (lv_at hl 1 rfl) ?_
  refine va_get (D := gD g) (ci := 7) (C := RX7) (T := TX7) (N := 12) (v := .int (gI st 26)) hx hb hts (fun w h => List.mem_cons_of_mem _ (isX70 w h)) hown hK hI.1 15 rfl rfl 6 (by decide) (hts _ (List.mem_cons_of_mem _ mw176)) (fun _ h9 => h9) rfl dX7_makeFromMemory_8 ?_
  refine lv_iconst (v := (4 : Int32)) hx hb dX7_makeFromMemory_11 (by decide) ?_
  refine lv_ishl hx hb dX7_makeFromMemory_12 ?_
  refine lv_ldc (v := (65535 : Int32)) hx hb hown (hts _ (List.mem_cons_of_mem _ mw722)) dX7_makeFromMemory_13 ?_
  refine lv_iand hx hb dX7_makeFromMemory_15 ?_
  refine lv_istore_n (lv' := [(2, .int (((gI st 26) <<< ((4 : Int32) &&& 31)) &&& (65535 : Int32))), (1, .int ((1 : Int32) <<< ((gI st 25) &&& 31))), (0, .ref (gad g 15))]) hx hb dX7_makeFromMemory_16 rfl hl (by decide) rfl (fun ls hl => ?_)
  refine lv_iconst (v := (0 : Int32)) hx hb dX7_makeFromMemory_17 (by decide) ?_
  refine lv_istore_n (lv' := [(3, .int (0 : Int32)), (2, .int (((gI st 26) <<< ((4 : Int32) &&& 31)) &&& (65535 : Int32))), (1, .int ((1 : Int32) <<< ((gI st 25) &&& 31))), (0, .ref (gad g 15))]) hx hb dX7_makeFromMemory_18 rfl hl (by decide) rfl (fun ls hl => ?_)
  refine lv_iconst (v := (0 : Int32)) hx hb dX7_makeFromMemory_19 (by decide) ?_
  refine lv_istore (lv' := [(4, .int (0 : Int32)), (3, .int (0 : Int32)), (2, .int (((gI st 26) <<< ((4 : Int32) &&& 31)) &&& (65535 : Int32))), (1, .int ((1 : Int32) <<< ((gI st 25) &&& 31))), (0, .ref (gad g 15))]) hx hb dX7_makeFromMemory_20 hl (by decide) rfl (fun ls hl => ?_)
  exact k_cScreen_makeFromMemory_b22t g C st ((1 : Int32) <<< ((gI st 25) &&& 31)) (((gI st 26) <<< ((4 : Int32) &&& 31)) &&& (65535 : Int32)) (0 : Int32) (0 : Int32) H locs ls hI (lv_sub hl [4, 3, 2, 1, 0] rfl) ⟨0, Nat.zero_le _, rfl⟩ X hF
set_option maxHeartbeats 4000000 in
set_option maxRecDepth 100000 in
theorem c_cScreen_makeFromMemory (l : Launch) (g : Gm) (st : CS) : Mv l yX7_makeFromMemory wq_X7_makeFromMemory rm_cScreen_makeFromMemory (gD g) vwCl (cty g) (cw g) (cz g) [.ref (gad g 15)] st (cScreen_makeFromMemory st) := by
  intro sz
  refine Met.ofW (cc := cX7_makeFromMemory) (maxL := 6) (ret := none) (by decide) rfl ?_
  intro p e s m args below meth c s₁ B hml hv
  obtain ⟨rfl, hsz, hP, hK, hD0, hZ⟩ := hv
  subst hsz
  have hl := lv_entry ([.ref (gad g 15)]) (n := 6) (Nat.le_of_ble_eq_true rfl)
  rw [lg_entry_eq]
  generalize (lg_sl ([.ref (gad g 15)]) ++ List.replicate (6 - (lg_sl ([.ref (gad g 15)])).length) Slot.unset).toArray = ls at hl ⊢
  exact k_cScreen_makeFromMemory g ⟨B.exec, B.bytes, B.returns, hml, findClass_of_methodNamed B.named, atoms_spec (ws := wq_X7_makeFromMemory) B.pre, B.notSynchronized, hK, fun q h => Or.inr h, hZ, cz_ok g⟩ st  _ _ ls ⟨hP, hD0.self, va_S.rf⟩ hl _ rfl
abbrev rm_cArrays_fill17 : Room := { frames := 0, cells := 0, slots := 0, locals := 0 }
def cArrays_fill17_b5 : Nat → CS → Int32 → Int32 → Int32 → Option (CS)
  | 0, _, _, _, _ => none
  | n + 1, st, x1, x2, x3 => (if (x3 ≤ x2) then (some st) else (cArrays_fill17_b5 n (sA st 7 (upd (gA st 7) x2.toNatClampNeg x1)) x1 (x2 + (1 : Int32)) x3))
set_option maxHeartbeats 4000000 in
set_option maxRecDepth 100000 in
theorem k_cArrays_fill17_b5 {p : Program} {l : Launch} {e : Env} {s : State} {m : MethodId} {args : Array Value} {below : List Frame} {meth : Method} {c : Code} {A : Nat → Prop} (g : Gm) (C : cX p s m args meth c A cJ7_fill_53178 none 4 RJ7 wq_J7_fill_53178 (gD g) vwCl (cty g) (cz g)) : ∀ (n : Nat) (st : CS) (x1 : Int32) (x2 : Int32) (x3 : Int32) (H : Heap) (locs : List Loc) (ls : Array Slot), cI (gD g) vwCl (cw g) A s st H locs → lv_has ls 4 [(0, .ref (gad g 17)), (1, .int x1), (2, .int x2), (3, .int x3)] → fl_ok 2048 x2 x3 → ∀ (X : CS), some X = cArrays_fill17_b5 n st x1 x2 x3 → W p l e rm_cArrays_fill17 s m args below meth c H locs 0 0 (MQ below (cQv (gD g) vwCl (cty g) (cw g) A X) args s 0 0 A) (F0 m 5 ls []) := by
  obtain ⟨hx, hb, hr, hml, hown, hts, hlocks, hK, hA, hZ, hzo⟩ := id C
  intro n
  induction n with
  | zero => intro st x1 x2 x3 H locs ls hI hl hf X hF; exact absurd hF (by simp [cArrays_fill17_b5])
  | succ n ih =>
    intro st x1 x2 x3 H locs ls hI hl hf X hF
    rw [cArrays_fill17_b5] at hF
    refine lv_iload_n hx hb dJ7_fill_53178_5 rfl (lv_at hl 2 rfl) ?_
    refine lv_iload_n hx hb dJ7_fill_53178_6 rfl (lv_at hl 3 rfl) ?_
    refine lv_icmp_ge (tgt := 20) hx hb dJ7_fill_53178_7 (by decide) (fun c_7 => ?_) (fun c_7 => ?_)
    · have hF := hF.trans (if_pos c_7)
      have hF := Option.some.inj hF
      exact cx_vret C hI hF dJ7_fill_53178_20
    · have hF := hF.trans (if_neg c_7)
      refine lv_aload_n hx hb dJ7_fill_53178_10 rfl (lv_at hl 0 rfl) ?_
      refine lv_iload_n hx hb dJ7_fill_53178_11 rfl (lv_at hl 2 rfl) ?_
      refine lv_iload_n hx hb dJ7_fill_53178_12 rfl (lv_at hl 1 rfl) ?_
      refine va_iast (f := (gA st 7)) hx hb hK hI.1 hI.2.1 hI.2.2 17 7 rfl rfl (fl_in (by decide) hf c_7) dJ7_fill_53178_13 (fun H locs hP hD hS => ?_)
      have hI : cI (gD g) vwCl (cw g) A s (sA st 7 (upd (gA st 7) x2.toNatClampNeg x1)) H locs := ⟨hP, hD, hS⟩
      refine lv_iinc (v := (x2 + (1 : Int32))) (lv' := [(2, .int (x2 + (1 : Int32))), (0, .ref (gad g 17)), (1, .int x1), (3, .int x3)]) hx hb dJ7_fill_53178_14 hl (k := 2) rfl rfl (by decide) rfl (fun ls hl => ?_)
      refine lv_goto (tgt := 5) hx hb dJ7_fill_53178_17 (by decide) ?_
      exact ih (sA st 7 (upd (gA st 7) x2.toNatClampNeg x1)) x1 (x2 + (1 : Int32)) x3 H locs ls hI (lv_sub hl [1, 2, 0, 3] rfl) (fl_st hf (by decide) c_7) X hF
def cArrays_fill17_b5t (st : CS) (x1 : Int32) (x2 : Int32) (x3 : Int32) : CS := (cArrays_fill17_b5 (2049) st x1 x2 x3).getD st
theorem u_cArrays_fill17 (x1 : Int32) : ∀ (n j : Nat) (st : CS), j ≤ 2048 → 2048 - j < n → cArrays_fill17_b5 n st x1 (nI j) (nI 2048) = some (fillS 7 st j 2048 x1) := by
  intro n
  induction n with
  | zero => intro j st h1 h2; omega
  | succ n ih =>
    intro j st h1 h2
    rw [cArrays_fill17_b5]
    rcases Nat.lt_or_ge j 2048 with q | q
    · rw [if_neg (nI_ge q (by decide)), show nI j + (1 : Int32) = nI (j + 1) from nI_1 j, nI_clamp (by omega), ih (j + 1) _ q (by omega), fillS_st 7 st j 2048 x1 q]
    · have e : j = 2048 := by omega
      subst e
      rw [if_pos (nI_le (Nat.le_refl _) (by decide)), fillS_0]
theorem t_cArrays_fill17_b5 (st : CS) (x1 x2 x3 : Int32) (hf : fl_ok 2048 x2 x3) : some (cArrays_fill17_b5t st x1 x2 x3) = cArrays_fill17_b5 (2049) st x1 x2 x3 := by
  obtain ⟨j, hj, rfl, rfl⟩ := hf
  exact some_getD ⟨_, u_cArrays_fill17 x1 _ j st hj (by omega)⟩
set_option maxHeartbeats 4000000 in
set_option maxRecDepth 100000 in
theorem k_cArrays_fill17_b5t {p : Program} {l : Launch} {e : Env} {s : State} {m : MethodId} {args : Array Value} {below : List Frame} {meth : Method} {c : Code} {A : Nat → Prop} (g : Gm) (C : cX p s m args meth c A cJ7_fill_53178 none 4 RJ7 wq_J7_fill_53178 (gD g) vwCl (cty g) (cz g)) (st : CS) (x1 : Int32) (x2 : Int32) (x3 : Int32) (H : Heap) (locs : List Loc) (ls : Array Slot) (hI : cI (gD g) vwCl (cw g) A s st H locs) (hl : lv_has ls 4 [(0, .ref (gad g 17)), (1, .int x1), (2, .int x2), (3, .int x3)]) (hf : fl_ok 2048 x2 x3) (X : CS) (hF : X = cArrays_fill17_b5t st x1 x2 x3) : W p l e rm_cArrays_fill17 s m args below meth c H locs 0 0 (MQ below (cQv (gD g) vwCl (cty g) (cw g) A X) args s 0 0 A) (F0 m 5 ls []) := by
  refine k_cArrays_fill17_b5 g C (2049) st x1 x2 x3 H locs ls hI hl hf X ?_
  rw [hF]
  exact t_cArrays_fill17_b5 st x1 x2 x3 hf
def cArrays_fill17 (st : CS) (x1 : Int32) : CS := (cArrays_fill17_b5t st x1 (0 : Int32) (2048 : Int32))
set_option maxHeartbeats 4000000 in
set_option maxRecDepth 100000 in
theorem k_cArrays_fill17 {p : Program} {l : Launch} {e : Env} {s : State} {m : MethodId} {args : Array Value} {below : List Frame} {meth : Method} {c : Code} {A : Nat → Prop} (g : Gm) (C : cX p s m args meth c A cJ7_fill_53178 none 4 RJ7 wq_J7_fill_53178 (gD g) vwCl (cty g) (cz g)) (st : CS) (x1 : Int32) (H : Heap) (locs : List Loc) (ls : Array Slot) (hI : cI (gD g) vwCl (cw g) A s st H locs) (hl : lv_has ls 4 [(0, .ref (gad g 17)), (1, .int x1)]) (X : CS) (hF : X = cArrays_fill17 st x1) : W p l e rm_cArrays_fill17 s m args below meth c H locs 0 0 (MQ below (cQv (gD g) vwCl (cty g) (cw g) A X) args s 0 0 A) (F0 m 0 ls []) := by
  obtain ⟨hx, hb, hr, hml, hown, hts, hlocks, hK, hA, hZ, hzo⟩ := id C
  unfold cArrays_fill17 at hF
  refine lv_iconst (v := (0 : Int32)) hx hb dJ7_fill_53178_0 (by decide) ?_
  refine lv_istore_n (lv' := [(2, .int (0 : Int32)), (0, .ref (gad g 17)), (1, .int x1)]) hx hb dJ7_fill_53178_1 rfl hl (by decide) rfl (fun ls hl => ?_)
  refine lv_aload_n hx hb dJ7_fill_53178_2 rfl (lv_at hl 1 rfl) ?_
  refine va_alen (v := (2048 : Int32)) hx hb hK hI.1 17 7 rfl rfl rfl dJ7_fill_53178_3 ?_
  refine lv_istore_n (lv' := [(3, .int (2048 : Int32)), (2, .int (0 : Int32)), (0, .ref (gad g 17)), (1, .int x1)]) hx hb dJ7_fill_53178_4 rfl hl (by decide) rfl (fun ls hl => ?_)
  exact k_cArrays_fill17_b5t g C st x1 (0 : Int32) (2048 : Int32) H locs ls hI (lv_sub hl [2, 3, 1, 0] rfl) ⟨0, Nat.zero_le _, rfl, rfl⟩ X hF
set_option maxHeartbeats 4000000 in
set_option maxRecDepth 100000 in
theorem c_cArrays_fill17 (l : Launch) (g : Gm) (st : CS) (x1 : Int32) : Mv l yJ7_fill_53178 wq_J7_fill_53178 rm_cArrays_fill17 (gD g) vwCl (cty g) (cw g) (cz g) [.ref (gad g 17), .int x1] st (cArrays_fill17 st x1) := by
  intro sz
  refine Met.ofW (cc := cJ7_fill_53178) (maxL := 4) (ret := none) (by decide) rfl ?_
  intro p e s m args below meth c s₁ B hml hv
  obtain ⟨rfl, hsz, hP, hK, hD0, hZ⟩ := hv
  subst hsz
  have hl := lv_entry ([.ref (gad g 17), .int x1]) (n := 4) (Nat.le_of_ble_eq_true rfl)
  rw [lg_entry_eq]
  generalize (lg_sl ([.ref (gad g 17), .int x1]) ++ List.replicate (4 - (lg_sl ([.ref (gad g 17), .int x1])).length) Slot.unset).toArray = ls at hl ⊢
  exact k_cArrays_fill17 g ⟨B.exec, B.bytes, B.returns, hml, findClass_of_methodNamed B.named, atoms_spec (ws := wq_J7_fill_53178) B.pre, B.notSynchronized, hK, fun q h => Or.inr h, hZ, cz_ok g⟩ st x1 _ _ ls ⟨hP, hD0.self, va_S.rf⟩ hl _ rfl
theorem r_cArrays_fill17 (st : CS) (x1 : Int32) : cArrays_fill17 st x1 = fillS 7 st 0 2048 x1 := by
  show (cArrays_fill17_b5 (2049) st x1 (nI 0) (nI 2048)).getD st = _
  rw [u_cArrays_fill17 x1 _ 0 st (Nat.zero_le _) (by decide)]
  rfl
abbrev wq_X7_goOn : List Cond := .code yX7_goOn cX7_goOn 2 none :: wAll
theorem yd_yX7_goOn : yX7_goOn.cls = RX7 ∧ yX7_goOn.cls ≠ "java/lang/invoke/MethodHandle" ∧ yX7_goOn.cls ≠ "java/lang/invoke/VarHandle" ∧ (parseMethodDescriptor yX7_goOn.desc).map (fun d => d.parameters.length) = some 1 := by decide +kernel
abbrev rm_cScreen_goOn : Room := { frames := 2, cells := 0, slots := 0, locals := 47 }
def cScreen_goOn_b65 (st : CS) : CS := (sI st 2 ((gI st 2) ||| (8 : Int32)))
set_option maxHeartbeats 4000000 in
set_option maxRecDepth 100000 in
theorem k_cScreen_goOn_b65 {p : Program} {l : Launch} {e : Env} {s : State} {m : MethodId} {args : Array Value} {below : List Frame} {meth : Method} {c : Code} {A : Nat → Prop} (g : Gm) (C : cX p s m args meth c A cX7_goOn none 2 RX7 wq_X7_goOn (gD g) vwCl (cty g) (cz g)) (st : CS) (H : Heap) (locs : List Loc) (ls : Array Slot) (hI : cI (gD g) vwCl (cw g) A s st H locs) (hl : lv_has ls 2 [(0, .ref (gad g 15))]) (X : CS) (hF : X = cScreen_goOn_b65 st ) : W p l e rm_cScreen_goOn s m args below meth c H locs 0 0 (MQ below (cQv (gD g) vwCl (cty g) (cw g) A X) args s 0 0 A) (F0 m 65 ls []) := by
  obtain ⟨hx, hb, hr, hml, hown, hts, hlocks, hK, hA, hZ, hzo⟩ := id C
  unfold cScreen_goOn_b65 at hF
  refine lv_aload_n hx hb dX7_goOn_65 rfl (lv_at hl 0 rfl) ?_
  refine va_get (D := gD g) (ci := 7) (C := RX7) (T := TX7) (N := 12) (v := .ref (gad g 7)) hx hb hts (fun w h => List.mem_cons_of_mem _ (isX70 w h)) hown hK hI.1 15 rfl rfl 1 (by decide) (hts _ (List.mem_cons_of_mem _ mw96)) (fun _ h9 => h9) rfl dX7_goOn_66 ?_
  refine lv_dup hx hb dX7_goOn_69 rfl ?_
  refine va_get (D := gD g) (ci := 4) (C := RX4) (T := TX4) (N := 6) (v := .int (gI st 2)) hx hb hts (fun w h => List.mem_cons_of_mem _ (isX40 w h)) hown hK hI.1 7 rfl rfl 0 (by decide) (hts _ (List.mem_cons_of_mem _ mw717)) (fun _ h9 => h9) rfl dX7_goOn_70 ?_
  refine lv_bipush (v := (8 : Int32)) hx hb dX7_goOn_73 (by decide) ?_
  refine lv_ior hx hb dX7_goOn_75 ?_
  refine va_put (D := gD g) (ci := 4) (C := RX4) (T := TX4) (N := 6) (v := .int ((gI st 2) ||| (8 : Int32))) (ty := .int) hx hb hts (fun w h => List.mem_cons_of_mem _ (isX40 w h)) tyX4 tyX4_ok nmX4 hown hK hI.1 hI.2.1 hI.2.2 7 rfl rfl 0 (by decide) (hts _ (List.mem_cons_of_mem _ mw717)) (fun _ h9 => h9) rfl (by decide +kernel) rfl rfl (Nat.le_of_ble_eq_true rfl) dX7_goOn_76 (fun H locs hP hD hS => ?_)
  have hI : cI (gD g) vwCl (cw g) A s (sI st 2 ((gI st 2) ||| (8 : Int32))) H locs := ⟨hP, hD, hS⟩
  exact cx_vret C hI hF dX7_goOn_79
def cScreen_goOn_b58 (st : CS) : CS := (cScreen_goOn_b65 st )
set_option maxHeartbeats 4000000 in
set_option maxRecDepth 100000 in
theorem k_cScreen_goOn_b58 {p : Program} {l : Launch} {e : Env} {s : State} {m : MethodId} {args : Array Value} {below : List Frame} {meth : Method} {c : Code} {A : Nat → Prop} (g : Gm) (C : cX p s m args meth c A cX7_goOn none 2 RX7 wq_X7_goOn (gD g) vwCl (cty g) (cz g)) (st : CS) (H : Heap) (locs : List Loc) (ls : Array Slot) (hI : cI (gD g) vwCl (cw g) A s st H locs) (hl : lv_has ls 2 [(0, .ref (gad g 15))]) (X : CS) (hF : X = cScreen_goOn_b58 st ) : W p l e rm_cScreen_goOn s m args below meth c H locs 0 0 (MQ below (cQv (gD g) vwCl (cty g) (cw g) A X) args s 0 0 A) (F0 m 58 ls []) := by
  obtain ⟨hx, hb, hr, hml, hown, hts, hlocks, hK, hA, hZ, hzo⟩ := id C
  unfold cScreen_goOn_b58 at hF
  refine lv_goto (tgt := 65) hx hb dX7_goOn_58 (by decide) ?_
  exact k_cScreen_goOn_b65 g C st  H locs ls hI (lv_sub hl [0] rfl) X hF
def cScreen_goOn (st : CS) (x1 : Int32) : CS := (if (((gI st 30) - x1) ≤ 0) then (if ((gI st 29) = 0) then (cScreen_goOn_b58 (cArrays_fill17 (sL (sI st 30 (((gI st 30) - x1) + (20000 : Int32))) 4 ((gL st 4) + (1 : Int64))) (gI st 24)) ) else (cScreen_goOn_b65 (cScreen_makeFromMemory (sL (sI st 30 (((gI st 30) - x1) + (20000 : Int32))) 4 ((gL st 4) + (1 : Int64)))) )) else (sI st 30 ((gI st 30) - x1)))
set_option maxHeartbeats 4000000 in
set_option maxRecDepth 100000 in
theorem k_cScreen_goOn {p : Program} {l : Launch} {e : Env} {s : State} {m : MethodId} {args : Array Value} {below : List Frame} {meth : Method} {c : Code} {A : Nat → Prop} (g : Gm) (C : cX p s m args meth c A cX7_goOn none 2 RX7 wq_X7_goOn (gD g) vwCl (cty g) (cz g)) (st : CS) (x1 : Int32) (H : Heap) (locs : List Loc) (ls : Array Slot) (hI : cI (gD g) vwCl (cw g) A s st H locs) (hl : lv_has ls 2 [(0, .ref (gad g 15)), (1, .int x1)]) (X : CS) (hF : X = cScreen_goOn st x1) : W p l e rm_cScreen_goOn s m args below meth c H locs 0 0 (MQ below (cQv (gD g) vwCl (cty g) (cw g) A X) args s 0 0 A) (F0 m 0 ls []) := by
  obtain ⟨hx, hb, hr, hml, hown, hts, hlocks, hK, hA, hZ, hzo⟩ := id C
  unfold cScreen_goOn at hF
  refine lv_aload_n hx hb dX7_goOn_0 rfl (lv_at hl 0 rfl) ?_
  refine lv_dup hx hb dX7_goOn_1 rfl ?_
  refine va_get (D := gD g) (ci := 7) (C := RX7) (T := TX7) (N := 12) (v := .int (gI st 30)) hx hb hts (fun w h => List.mem_cons_of_mem _ (isX70 w h)) hown hK hI.1 15 rfl rfl 10 (by decide) (hts _ (List.mem_cons_of_mem _ mw180)) (fun _ h9 => h9) rfl dX7_goOn_2 ?_
  refine lv_iload_n hx hb dX7_goOn_5 rfl (lv_at hl 1 rfl) ?_
  refine lv_isub hx hb dX7_goOn_6 ?_
  refine va_put (D := gD g) (ci := 7) (C := RX7) (T := TX7) (N := 12) (v := .int ((gI st 30) - x1)) (ty := .int) hx hb hts (fun w h => List.mem_cons_of_mem _ (isX70 w h)) tyX7 tyX7_ok nmX7 hown hK hI.1 hI.2.1 hI.2.2 15 rfl rfl 10 (by decide) (hts _ (List.mem_cons_of_mem _ mw180)) (fun _ h9 => h9) rfl (by decide +kernel) rfl rfl (Nat.le_of_ble_eq_true rfl) dX7_goOn_7 (fun H locs hP hD hS => ?_)
  have hI : cI (gD g) vwCl (cw g) A s (sI st 30 ((gI st 30) - x1)) H locs := ⟨hP, hD, hS⟩
  refine lv_aload_n hx hb dX7_goOn_10 rfl (lv_at hl 0 rfl) ?_
  refine va_get (D := gD g) (ci := 7) (C := RX7) (T := TX7) (N := 12) (v := .int ((gI st 30) - x1)) hx hb hts (fun w h => List.mem_cons_of_mem _ (isX70 w h)) hown hK hI.1 15 rfl rfl 10 (by decide) (hts _ (List.mem_cons_of_mem _ mw180)) (fun _ h9 => h9) rfl dX7_goOn_11 ?_
  refine lv_if_le (tgt := 18) hx hb dX7_goOn_14 (by decide) (fun c_14 => ?_) (fun c_14 => ?_)
  · have hF := hF.trans (if_pos c_14)
    refine lv_aload_n hx hb dX7_goOn_18 rfl (lv_at hl 0 rfl) ?_
    refine lv_dup hx hb dX7_goOn_19 rfl ?_
    refine va_get (D := gD g) (ci := 7) (C := RX7) (T := TX7) (N := 12) (v := .int ((gI st 30) - x1)) hx hb hts (fun w h => List.mem_cons_of_mem _ (isX70 w h)) hown hK hI.1 15 rfl rfl 10 (by decide) (hts _ (List.mem_cons_of_mem _ mw180)) (fun _ h9 => h9) rfl dX7_goOn_20 ?_
    refine lv_sipush (v := (20000 : Int32)) hx hb dX7_goOn_23 (by decide) ?_
    refine lv_iadd hx hb dX7_goOn_26 ?_
    refine va_put (D := gD g) (ci := 7) (C := RX7) (T := TX7) (N := 12) (v := .int (((gI st 30) - x1) + (20000 : Int32))) (ty := .int) hx hb hts (fun w h => List.mem_cons_of_mem _ (isX70 w h)) tyX7 tyX7_ok nmX7 hown hK hI.1 hI.2.1 hI.2.2 15 rfl rfl 10 (by decide) (hts _ (List.mem_cons_of_mem _ mw180)) (fun _ h9 => h9) rfl (by decide +kernel) rfl rfl (Nat.le_of_ble_eq_true rfl) dX7_goOn_27 (fun H locs hP hD hS => ?_)
    have hI : cI (gD g) vwCl (cw g) A s (sI st 30 (((gI st 30) - x1) + (20000 : Int32))) H locs := ⟨hP, hD, hS⟩
    refine lv_aload_n hx hb dX7_goOn_30 rfl (lv_at hl 0 rfl) ?_
    refine lv_dup hx hb dX7_goOn_31 rfl ?_
    refine va_get (D := gD g) (ci := 7) (C := RX7) (T := TX7) (N := 12) (v := .long (gL st 4)) hx hb hts (fun w h => List.mem_cons_of_mem _ (isX70 w h)) hown hK hI.1 15 rfl rfl 11 (by decide) (hts _ (List.mem_cons_of_mem _ mw716)) (fun _ h9 => h9) rfl dX7_goOn_32 ?_
    refine lv_lconst (v := (1 : Int64)) hx hb dX7_goOn_35 (by decide) ?_
    refine lv_ladd hx hb dX7_goOn_36 ?_
    refine va_put (D := gD g) (ci := 7) (C := RX7) (T := TX7) (N := 12) (v := .long ((gL st 4) + (1 : Int64))) (ty := .long) hx hb hts (fun w h => List.mem_cons_of_mem _ (isX70 w h)) tyX7 tyX7_ok nmX7 hown hK hI.1 hI.2.1 hI.2.2 15 rfl rfl 11 (by decide) (hts _ (List.mem_cons_of_mem _ mw716)) (fun _ h9 => h9) rfl (by decide +kernel) rfl rfl (Nat.le_of_ble_eq_true rfl) dX7_goOn_37 (fun H locs hP hD hS => ?_)
    have hI : cI (gD g) vwCl (cw g) A s (sL (sI st 30 (((gI st 30) - x1) + (20000 : Int32))) 4 ((gL st 4) + (1 : Int64))) H locs := ⟨hP, hD, hS⟩
    refine lv_aload_n hx hb dX7_goOn_40 rfl (lv_at hl 0 rfl) ?_
    refine va_get (D := gD g) (ci := 7) (C := RX7) (T := TX7) (N := 12) (v := .int (gI st 29)) hx hb hts (fun w h => List.mem_cons_of_mem _ (isX70 w h)) hown hK hI.1 15 rfl rfl 9 (by decide) (hts _ (List.mem_cons_of_mem _ mw179)) (fun _ h9 => h9) rfl dX7_goOn_41 ?_
    refine lv_if_ne (tgt := 61) hx hb dX7_goOn_44 (by decide) (fun c_44 => ?_) (fun c_44 => ?_)
    · have hF := hF.trans (if_neg c_44)
      refine lv_aload_n hx hb dX7_goOn_61 rfl (lv_at hl 0 rfl) ?_
      refine cx_Vv (As := []) (rest := []) C (c_cScreen_makeFromMemory l g (sL (sI st 30 (((gI st 30) - x1) + (20000 : Int32))) 4 ((gL st 4) + (1 : Int64))) ) (cwV 0 hts (gd_V _ mw718 mw719 mw720 mw38 mw721) rfl rfl rfl yd_yX7_makeFromMemory ⟨Nat.le_of_ble_eq_true rfl, Nat.le_of_ble_eq_true rfl⟩) (va_recv hK hI.1 (ci := 7) (q0 := 15) rfl rfl) hI rfl hl.1 rfl (Nat.le_of_ble_eq_true rfl) dX7_goOn_62 (fun H locs hI => ?_)
      exact k_cScreen_goOn_b65 g C (cScreen_makeFromMemory (sL (sI st 30 (((gI st 30) - x1) + (20000 : Int32))) 4 ((gL st 4) + (1 : Int64))))  H locs ls hI (lv_sub hl [0] rfl) X hF
    · have hF := hF.trans (if_pos c_44)
      refine lv_aload_n hx hb dX7_goOn_47 rfl (lv_at hl 0 rfl) ?_
      refine va_get (D := gD g) (ci := 7) (C := RX7) (T := TX7) (N := 12) (v := .ref (gad g 17)) hx hb hts (fun w h => List.mem_cons_of_mem _ (isX70 w h)) hown hK hI.1 15 rfl rfl 3 (by decide) (hts _ (List.mem_cons_of_mem _ mw94)) (fun _ h9 => h9) rfl dX7_goOn_48 ?_
      refine lv_aload_n hx hb dX7_goOn_51 rfl (lv_at hl 0 rfl) ?_
      refine va_get (D := gD g) (ci := 7) (C := RX7) (T := TX7) (N := 12) (v := .int (gI st 24)) hx hb hts (fun w h => List.mem_cons_of_mem _ (isX70 w h)) hown hK hI.1 15 rfl rfl 4 (by decide) (hts _ (List.mem_cons_of_mem _ mw174)) (fun _ h9 => h9) rfl dX7_goOn_52 ?_
      refine cx_Sv (As := [.ref (gad g 17), .int (gI st 24)]) (rest := []) C (c_cArrays_fill17 l g (sL (sI st 30 (((gI st 30) - x1) + (20000 : Int32))) 4 ((gL st 4) + (1 : Int64))) (gI st 24)) (va_cwS 2 hts (gd_S _ mw181 mw125 mw126 mw127) rfl rfl rfl yd_yJ7_fill_53178 ⟨Nat.le_of_ble_eq_true rfl, Nat.le_of_ble_eq_true rfl⟩) hI rfl hl.1 rfl (Nat.le_of_ble_eq_true rfl) dX7_goOn_55 (fun H locs hI => ?_)
      exact k_cScreen_goOn_b58 g C (cArrays_fill17 (sL (sI st 30 (((gI st 30) - x1) + (20000 : Int32))) 4 ((gL st 4) + (1 : Int64))) (gI st 24))  H locs ls hI (lv_sub hl [0] rfl) X hF
  · have hF := hF.trans (if_neg c_14)
    exact cx_vret C hI hF dX7_goOn_17
set_option maxHeartbeats 4000000 in
set_option maxRecDepth 100000 in
theorem c_cScreen_goOn (l : Launch) (g : Gm) (st : CS) (x1 : Int32) : Mv l yX7_goOn wq_X7_goOn rm_cScreen_goOn (gD g) vwCl (cty g) (cw g) (cz g) [.ref (gad g 15), .int x1] st (cScreen_goOn st x1) := by
  intro sz
  refine Met.ofW (cc := cX7_goOn) (maxL := 2) (ret := none) (by decide) rfl ?_
  intro p e s m args below meth c s₁ B hml hv
  obtain ⟨rfl, hsz, hP, hK, hD0, hZ⟩ := hv
  subst hsz
  have hl := lv_entry ([.ref (gad g 15), .int x1]) (n := 2) (Nat.le_of_ble_eq_true rfl)
  rw [lg_entry_eq]
  generalize (lg_sl ([.ref (gad g 15), .int x1]) ++ List.replicate (2 - (lg_sl ([.ref (gad g 15), .int x1])).length) Slot.unset).toArray = ls at hl ⊢
  exact k_cScreen_goOn g ⟨B.exec, B.bytes, B.returns, hml, findClass_of_methodNamed B.named, atoms_spec (ws := wq_X7_goOn) B.pre, B.notSynchronized, hK, fun q h => Or.inr h, hZ, cz_ok g⟩ st x1 _ _ ls ⟨hP, hD0.self, va_S.rf⟩ hl _ rfl
