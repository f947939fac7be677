abbrev wq_X4_begin : List Cond := .code yX4_begin cX4_begin 1 none :: wAll
theorem yd_yX4_begin : yX4_begin.cls = RX4 ∧ yX4_begin.cls ≠ "java/lang/invoke/MethodHandle" ∧ yX4_begin.cls ≠ "java/lang/invoke/VarHandle" ∧ (parseMethodDescriptor yX4_begin.desc).map (fun d => d.parameters.length) = some 0 := by decide +kernel
abbrev rm_cLines_begin : Room := { frames := 0, cells := 0, slots := 0, locals := 0 }
def cLines_begin (st : CS) : CS := (sI (sI (sI (sI (sI (sI st 2 (128 : Int32)) 3 (64 : Int32)) 4 (128 : Int32)) 5 (0 : Int32)) 6 (0 : Int32)) 7 (0 : Int32))
set_option maxHeartbeats 4000000 in
set_option maxRecDepth 100000 in
theorem k_cLines_begin {p : Program} {l : Launch} {e : Env} {s : State} {m : MethodId} {args : Array Value} {below : List Frame} {meth : Method} {c : Code} {A : Nat → Prop} (g : Gm) (C : cX p s m args meth c A cX4_begin none 1 RX4 wq_X4_begin (gD g) vwCl (cty g) (cz g)) (st : CS) (H : Heap) (locs : List Loc) (ls : Array Slot) (hI : cI (gD g) vwCl (cw g) A s st H locs) (hl : lv_has ls 1 [(0, .ref (gad g 7))]) (X : CS) (hF : X = cLines_begin st) : W p l e rm_cLines_begin s m args below meth c H locs 0 0 (MQ below (cQv (gD g) vwCl (cty g) (cw g) A X) args s 0 0 A) (F0 m 0 ls []) := by
  obtain ⟨hx, hb, hr, hml, hown, hts, hlocks, hK, hA, hZ, hzo⟩ := id C
  unfold cLines_begin at hF
  refine lv_aload_n hx hb dX4_begin_0 rfl (lv_at hl 0 rfl) ?_
  refine lv_sipush (v := (128 : Int32)) hx hb dX4_begin_1 (by decide) ?_
  refine va_put (D := gD g) (ci := 4) (C := RX4) (T := TX4) (N := 6) (v := .int (128 : Int32)) (ty := .int) hx hb hts (fun w h => List.mem_cons_of_mem _ (isX40 w h)) tyX4 tyX4_ok nmX4 hown hK hI.1 hI.2.1 hI.2.2 7 rfl rfl 0 (by decide) (hts _ (List.mem_cons_of_mem _ mw138)) (fun _ h9 => h9) rfl (by decide +kernel) rfl rfl (Nat.le_of_ble_eq_true rfl) dX4_begin_4 (fun H locs hP hD hS => ?_)
  have hI : cI (gD g) vwCl (cw g) A s (sI st 2 (128 : Int32)) H locs := ⟨hP, hD, hS⟩
  refine lv_aload_n hx hb dX4_begin_7 rfl (lv_at hl 0 rfl) ?_
  refine lv_bipush (v := (64 : Int32)) hx hb dX4_begin_8 (by decide) ?_
  refine va_put (D := gD g) (ci := 4) (C := RX4) (T := TX4) (N := 6) (v := .int (64 : Int32)) (ty := .int) hx hb hts (fun w h => List.mem_cons_of_mem _ (isX40 w h)) tyX4 tyX4_ok nmX4 hown hK hI.1 hI.2.1 hI.2.2 7 rfl rfl 1 (by decide) (hts _ (List.mem_cons_of_mem _ mw139)) (fun _ h9 => h9) rfl (by decide +kernel) rfl rfl (Nat.le_of_ble_eq_true rfl) dX4_begin_10 (fun H locs hP hD hS => ?_)
  have hI : cI (gD g) vwCl (cw g) A s (sI (sI st 2 (128 : Int32)) 3 (64 : Int32)) H locs := ⟨hP, hD, hS⟩
  refine lv_aload_n hx hb dX4_begin_13 rfl (lv_at hl 0 rfl) ?_
  refine lv_sipush (v := (128 : Int32)) hx hb dX4_begin_14 (by decide) ?_
  refine va_put (D := gD g) (ci := 4) (C := RX4) (T := TX4) (N := 6) (v := .int (128 : Int32)) (ty := .int) hx hb hts (fun w h => List.mem_cons_of_mem _ (isX40 w h)) tyX4 tyX4_ok nmX4 hown hK hI.1 hI.2.1 hI.2.2 7 rfl rfl 2 (by decide) (hts _ (List.mem_cons_of_mem _ mw140)) (fun _ h9 => h9) rfl (by decide +kernel) rfl rfl (Nat.le_of_ble_eq_true rfl) dX4_begin_17 (fun H locs hP hD hS => ?_)
  have hI : cI (gD g) vwCl (cw g) A s (sI (sI (sI st 2 (128 : Int32)) 3 (64 : Int32)) 4 (128 : Int32)) H locs := ⟨hP, hD, hS⟩
  refine lv_aload_n hx hb dX4_begin_20 rfl (lv_at hl 0 rfl) ?_
  refine lv_iconst (v := (0 : Int32)) hx hb dX4_begin_21 (by decide) ?_
  refine va_put (D := gD g) (ci := 4) (C := RX4) (T := TX4) (N := 6) (v := .int (0 : Int32)) (ty := .int) hx hb hts (fun w h => List.mem_cons_of_mem _ (isX40 w h)) tyX4 tyX4_ok nmX4 hown hK hI.1 hI.2.1 hI.2.2 7 rfl rfl 3 (by decide) (hts _ (List.mem_cons_of_mem _ mw141)) (fun _ h9 => h9) rfl (by decide +kernel) rfl rfl (Nat.le_of_ble_eq_true rfl) dX4_begin_22 (fun H locs hP hD hS => ?_)
  have hI : cI (gD g) vwCl (cw g) A s (sI (sI (sI (sI st 2 (128 : Int32)) 3 (64 : Int32)) 4 (128 : Int32)) 5 (0 : Int32)) H locs := ⟨hP, hD, hS⟩
  refine lv_aload_n hx hb dX4_begin_25 rfl (lv_at hl 0 rfl) ?_
  refine lv_iconst (v := (0 : Int32)) hx hb dX4_begin_26 (by decide) ?_
  refine va_put (D := gD g) (ci := 4) (C := RX4) (T := TX4) (N := 6) (v := .int (0 : Int32)) (ty := .int) hx hb hts (fun w h => List.mem_cons_of_mem _ (isX40 w h)) tyX4 tyX4_ok nmX4 hown hK hI.1 hI.2.1 hI.2.2 7 rfl rfl 4 (by decide) (hts _ (List.mem_cons_of_mem _ mw142)) (fun _ h9 => h9) rfl (by decide +kernel) rfl rfl (Nat.le_of_ble_eq_true rfl) dX4_begin_27 (fun H locs hP hD hS => ?_)
  have hI : cI (gD g) vwCl (cw g) A s (sI (sI (sI (sI (sI st 2 (128 : Int32)) 3 (64 : Int32)) 4 (128 : Int32)) 5 (0 : Int32)) 6 (0 : Int32)) H locs := ⟨hP, hD, hS⟩
  refine lv_aload_n hx hb dX4_begin_30 rfl (lv_at hl 0 rfl) ?_
  refine lv_iconst (v := (0 : Int32)) hx hb dX4_begin_31 (by decide) ?_
  refine va_put (D := gD g) (ci := 4) (C := RX4) (T := TX4) (N := 6) (v := .int (0 : Int32)) (ty := .int) hx hb hts (fun w h => List.mem_cons_of_mem _ (isX40 w h)) tyX4 tyX4_ok nmX4 hown hK hI.1 hI.2.1 hI.2.2 7 rfl rfl 5 (by decide) (hts _ (List.mem_cons_of_mem _ mw143)) (fun _ h9 => h9) rfl (by decide +kernel) rfl rfl (Nat.le_of_ble_eq_true rfl) dX4_begin_32 (fun H locs hP hD hS => ?_)
  have hI : cI (gD g) vwCl (cw g) A s (sI (sI (sI (sI (sI (sI st 2 (128 : Int32)) 3 (64 : Int32)) 4 (128 : Int32)) 5 (0 : Int32)) 6 (0 : Int32)) 7 (0 : Int32)) H locs := ⟨hP, hD, hS⟩
  exact cx_vret C hI hF dX4_begin_35
set_option maxHeartbeats 4000000 in
set_option maxRecDepth 100000 in
theorem c_cLines_begin (l : Launch) (g : Gm) (st : CS) : Mv l yX4_begin wq_X4_begin rm_cLines_begin (gD g) vwCl (cty g) (cw g) (cz g) [.ref (gad g 7)] st (cLines_begin st) := by
  intro sz
  refine Met.ofW (cc := cX4_begin) (maxL := 1) (ret := none) (by decide) rfl ?_
  intro p e s m args below meth c s₁ B hml hv
  obtain ⟨rfl, hsz, hP, hK, hD0, hZ⟩ := hv
  subst hsz
  have hl := lv_entry ([.ref (gad g 7)]) (n := 1) (Nat.le_of_ble_eq_true rfl)
  rw [lg_entry_eq]
  generalize (lg_sl ([.ref (gad g 7)]) ++ List.replicate (1 - (lg_sl ([.ref (gad g 7)])).length) Slot.unset).toArray = ls at hl ⊢
  exact k_cLines_begin g ⟨B.exec, B.bytes, B.returns, hml, findClass_of_methodNamed B.named, atoms_spec (ws := wq_X4_begin) B.pre, B.notSynchronized, hK, fun q h => Or.inr h, hZ, cz_ok g⟩ st  _ _ ls ⟨hP, hD0.self, va_S.rf⟩ hl _ rfl
abbrev wq_X4_isIrq : List Cond := .code yX4_isIrq cX4_isIrq 1 (some .boolean) :: wAll
theorem yd_yX4_isIrq : yX4_isIrq.cls = RX4 ∧ yX4_isIrq.cls ≠ "java/lang/invoke/MethodHandle" ∧ yX4_isIrq.cls ≠ "java/lang/invoke/VarHandle" ∧ (parseMethodDescriptor yX4_isIrq.desc).map (fun d => d.parameters.length) = some 0 := by decide +kernel
abbrev rm_cLines_isIrq : Room := { frames := 0, cells := 0, slots := 0, locals := 0 }
def cLines_isIrq (st : CS) : Int32 := (if ((((gI st 2) &&& (gI st 5)) ||| ((gI st 3) &&& (gI st 6))) = 0) then (0 : Int32) else (1 : Int32))
set_option maxHeartbeats 4000000 in
set_option maxRecDepth 100000 in
theorem k_cLines_isIrq {p : Program} {l : Launch} {e : Env} {s : State} {m : MethodId} {args : Array Value} {below : List Frame} {meth : Method} {c : Code} {A : Nat → Prop} (g : Gm) (C : cX p s m args meth c A cX4_isIrq (some .boolean) 1 RX4 wq_X4_isIrq (gD g) vwCl (cty g) (cz g)) (st : CS) (H : Heap) (locs : List Loc) (ls : Array Slot) (hI : cI (gD g) vwCl (cw g) A s st H locs) (hl : lv_has ls 1 [(0, .ref (gad g 7))]) (X : Int32) (hF : X = cLines_isIrq st) : W p l e rm_cLines_isIrq s m args below meth c H locs 0 0 (MQ below (cQi (gD g) vwCl (cty g) (cw g) A st X) args s 0 0 A) (F0 m 0 ls []) := by
  obtain ⟨hx, hb, hr, hml, hown, hts, hlocks, hK, hA, hZ, hzo⟩ := id C
  unfold cLines_isIrq at hF
  refine lv_aload_n hx hb dX4_isIrq_0 rfl (lv_at hl 0 rfl) ?_
  refine va_get (D := gD g) (ci := 4) (C := RX4) (T := TX4) (N := 6) (v := .int (gI st 2)) hx hb hts (fun w h => List.mem_cons_of_mem _ (isX40 w h)) hown hK hI.1 7 rfl rfl 0 (by decide) (hts _ (List.mem_cons_of_mem _ mw138)) (fun _ h9 => h9) rfl dX4_isIrq_1 ?_
  refine lv_aload_n hx hb dX4_isIrq_4 rfl (lv_at hl 0 rfl) ?_
  refine va_get (D := gD g) (ci := 4) (C := RX4) (T := TX4) (N := 6) (v := .int (gI st 5)) hx hb hts (fun w h => List.mem_cons_of_mem _ (isX40 w h)) hown hK hI.1 7 rfl rfl 3 (by decide) (hts _ (List.mem_cons_of_mem _ mw141)) (fun _ h9 => h9) rfl dX4_isIrq_5 ?_
  refine lv_iand hx hb dX4_isIrq_8 ?_
  refine lv_aload_n hx hb dX4_isIrq_9 rfl (lv_at hl 0 rfl) ?_
  refine va_get (D := gD g) (ci := 4) (C := RX4) (T := TX4) (N := 6) (v := .int (gI st 3)) hx hb hts (fun w h => List.mem_cons_of_mem _ (isX40 w h)) hown hK hI.1 7 rfl rfl 1 (by decide) (hts _ (List.mem_cons_of_mem _ mw139)) (fun _ h9 => h9) rfl dX4_isIrq_10 ?_
  refine lv_aload_n hx hb dX4_isIrq_13 rfl (lv_at hl 0 rfl) ?_
  refine va_get (D := gD g) (ci := 4) (C := RX4) (T := TX4) (N := 6) (v := .int (gI st 6)) hx hb hts (fun w h => List.mem_cons_of_mem _ (isX40 w h)) hown hK hI.1 7 rfl rfl 4 (by decide) (hts _ (List.mem_cons_of_mem _ mw142)) (fun _ h9 => h9) rfl dX4_isIrq_14 ?_
  refine lv_iand hx hb dX4_isIrq_17 ?_
  refine lv_ior hx hb dX4_isIrq_18 ?_
  refine lv_if_eq (tgt := 26) hx hb dX4_isIrq_19 (by decide) (fun c_19 => ?_) (fun c_19 => ?_)
  · have hF := hF.trans (if_pos c_19)
    refine lv_iconst (v := (0 : Int32)) hx hb dX4_isIrq_26 (by decide) ?_
    exact cx_zret C hI rfl hF rfl dX4_isIrq_27
  · have hF := hF.trans (if_neg c_19)
    refine lv_iconst (v := (1 : Int32)) hx hb dX4_isIrq_22 (by decide) ?_
    refine lv_goto (tgt := 27) hx hb dX4_isIrq_23 (by decide) ?_
    exact cx_zret C hI rfl hF rfl dX4_isIrq_27
set_option maxHeartbeats 4000000 in
set_option maxRecDepth 100000 in
theorem c_cLines_isIrq (l : Launch) (g : Gm) (st : CS) : Mi l yX4_isIrq wq_X4_isIrq rm_cLines_isIrq (gD g) vwCl (cty g) (cw g) (cz g) [.ref (gad g 7)] st st (cLines_isIrq st) := by
  intro sz
  refine Met.ofW (cc := cX4_isIrq) (maxL := 1) (ret := (some .boolean)) (by decide) rfl ?_
  intro p e s m args below meth c s₁ B hml hv
  obtain ⟨rfl, hsz, hP, hK, hD0, hZ⟩ := hv
  subst hsz
  have hl := lv_entry ([.ref (gad g 7)]) (n := 1) (Nat.le_of_ble_eq_true rfl)
  rw [lg_entry_eq]
  generalize (lg_sl ([.ref (gad g 7)]) ++ List.replicate (1 - (lg_sl ([.ref (gad g 7)])).length) Slot.unset).toArray = ls at hl ⊢
  exact k_cLines_isIrq g ⟨B.exec, B.bytes, B.returns, hml, findClass_of_methodNamed B.named, atoms_spec (ws := wq_X4_isIrq) B.pre, B.notSynchronized, hK, fun q h => Or.inr h, hZ, cz_ok g⟩ st  _ _ ls ⟨hP, hD0.self, va_S.rf⟩ hl _ rfl
abbrev wq_X4_isFiq : List Cond := .code yX4_isFiq cX4_isFiq 1 (some .boolean) :: wAll
theorem yd_yX4_isFiq : yX4_isFiq.cls = RX4 ∧ yX4_isFiq.cls ≠ "java/lang/invoke/MethodHandle" ∧ yX4_isFiq.cls ≠ "java/lang/invoke/VarHandle" ∧ (parseMethodDescriptor yX4_isFiq.desc).map (fun d => d.parameters.length) = some 0 := by decide +kernel
abbrev rm_cLines_isFiq : Room := { frames := 0, cells := 0, slots := 0, locals := 0 }
def cLines_isFiq (st : CS) : Int32 := (if (((gI st 4) &&& (gI st 7)) = 0) then (0 : Int32) else (1 : Int32))
set_option maxHeartbeats 4000000 in
set_option maxRecDepth 100000 in
theorem k_cLines_isFiq {p : Program} {l : Launch} {e : Env} {s : State} {m : MethodId} {args : Array Value} {below : List Frame} {meth : Method} {c : Code} {A : Nat → Prop} (g : Gm) (C : cX p s m args meth c A cX4_isFiq (some .boolean) 1 RX4 wq_X4_isFiq (gD g) vwCl (cty g) (cz g)) (st : CS) (H : Heap) (locs : List Loc) (ls : Array Slot) (hI : cI (gD g) vwCl (cw g) A s st H locs) (hl : lv_has ls 1 [(0, .ref (gad g 7))]) (X : Int32) (hF : X = cLines_isFiq st) : W p l e rm_cLines_isFiq s m args below meth c H locs 0 0 (MQ below (cQi (gD g) vwCl (cty g) (cw g) A st X) args s 0 0 A) (F0 m 0 ls []) := by
  obtain ⟨hx, hb, hr, hml, hown, hts, hlocks, hK, hA, hZ, hzo⟩ := id C
  unfold cLines_isFiq at hF
  refine lv_aload_n hx hb dX4_isFiq_0 rfl (lv_at hl 0 rfl) ?_
  refine va_get (D := gD g) (ci := 4) (C := RX4) (T := TX4) (N := 6) (v := .int (gI st 4)) hx hb hts (fun w h => List.mem_cons_of_mem _ (isX40 w h)) hown hK hI.1 7 rfl rfl 2 (by decide) (hts _ (List.mem_cons_of_mem _ mw140)) (fun _ h9 => h9) rfl dX4_isFiq_1 ?_
  refine lv_aload_n hx hb dX4_isFiq_4 rfl (lv_at hl 0 rfl) ?_
  refine va_get (D := gD g) (ci := 4) (C := RX4) (T := TX4) (N := 6) (v := .int (gI st 7)) hx hb hts (fun w h => List.mem_cons_of_mem _ (isX40 w h)) hown hK hI.1 7 rfl rfl 5 (by decide) (hts _ (List.mem_cons_of_mem _ mw143)) (fun _ h9 => h9) rfl dX4_isFiq_5 ?_
  refine lv_iand hx hb dX4_isFiq_8 ?_
  refine lv_if_eq (tgt := 16) hx hb dX4_isFiq_9 (by decide) (fun c_9 => ?_) (fun c_9 => ?_)
  · have hF := hF.trans (if_pos c_9)
    refine lv_iconst (v := (0 : Int32)) hx hb dX4_isFiq_16 (by decide) ?_
    exact cx_zret C hI rfl hF rfl dX4_isFiq_17
  · have hF := hF.trans (if_neg c_9)
    refine lv_iconst (v := (1 : Int32)) hx hb dX4_isFiq_12 (by decide) ?_
    refine lv_goto (tgt := 17) hx hb dX4_isFiq_13 (by decide) ?_
    exact cx_zret C hI rfl hF rfl dX4_isFiq_17
set_option maxHeartbeats 4000000 in
set_option maxRecDepth 100000 in
theorem c_cLines_isFiq (l : Launch) (g : Gm) (st : CS) : Mi l yX4_isFiq wq_X4_isFiq rm_cLines_isFiq (gD g) vwCl (cty g) (cw g) (cz g) [.ref (gad g 7)] st st (cLines_isFiq st) := by
  intro sz
  refine Met.ofW (cc := cX4_isFiq) (maxL := 1) (ret := (some .boolean)) (by decide) rfl ?_
  intro p e s m args below meth c s₁ B hml hv
  obtain ⟨rfl, hsz, hP, hK, hD0, hZ⟩ := hv
  subst hsz
  have hl := lv_entry ([.ref (gad g 7)]) (n := 1) (Nat.le_of_ble_eq_true rfl)
  rw [lg_entry_eq]
  generalize (lg_sl ([.ref (gad g 7)]) ++ List.replicate (1 - (lg_sl ([.ref (gad g 7)])).length) Slot.unset).toArray = ls at hl ⊢
  exact k_cLines_isFiq g ⟨B.exec, B.bytes, B.returns, hml, findClass_of_methodNamed B.named, atoms_spec (ws := wq_X4_isFiq) B.pre, B.notSynchronized, hK, fun q h => Or.inr h, hZ, cz_ok g⟩ st  _ _ ls ⟨hP, hD0.self, va_S.rf⟩ hl _ rfl
abbrev wq_X4_diskIsReady : List Cond := .code yX4_diskIsReady cX4_diskIsReady 1 none :: wAll
theorem yd_yX4_diskIsReady : yX4_diskIsReady.cls = RX4 ∧ yX4_diskIsReady.cls ≠ "java/lang/invoke/MethodHandle" ∧ yX4_diskIsReady.cls ≠ "java/lang/invoke/VarHandle" ∧ (parseMethodDescriptor yX4_diskIsReady.desc).map (fun d => d.parameters.length) = some 0 := by decide +kernel
abbrev rm_cLines_diskIsReady : Room := { frames := 0, cells := 0, slots := 0, locals := 0 }
def cLines_diskIsReady (st : CS) : CS := (sI (sI st 3 ((gI st 3) ||| (8 : Int32))) 4 ((gI st 4) ||| (1 : Int32)))
set_option maxHeartbeats 4000000 in
set_option maxRecDepth 100000 in
theorem k_cLines_diskIsReady {p : Program} {l : Launch} {e : Env} {s : State} {m : MethodId} {args : Array Value} {below : List Frame} {meth : Method} {c : Code} {A : Nat → Prop} (g : Gm) (C : cX p s m args meth c A cX4_diskIsReady none 1 RX4 wq_X4_diskIsReady (gD g) vwCl (cty g) (cz g)) (st : CS) (H : Heap) (locs : List Loc) (ls : Array Slot) (hI : cI (gD g) vwCl (cw g) A s st H locs) (hl : lv_has ls 1 [(0, .ref (gad g 7))]) (X : CS) (hF : X = cLines_diskIsReady st) : W p l e rm_cLines_diskIsReady s m args below meth c H locs 0 0 (MQ below (cQv (gD g) vwCl (cty g) (cw g) A X) args s 0 0 A) (F0 m 0 ls []) := by
  obtain ⟨hx, hb, hr, hml, hown, hts, hlocks, hK, hA, hZ, hzo⟩ := id C
  unfold cLines_diskIsReady at hF
  refine lv_aload_n hx hb dX4_diskIsReady_0 rfl (lv_at hl 0 rfl) ?_
  refine lv_dup hx hb dX4_diskIsReady_1 rfl ?_
  refine va_get (D := gD g) (ci := 4) (C := RX4) (T := TX4) (N := 6) (v := .int (gI st 3)) hx hb hts (fun w h => List.mem_cons_of_mem _ (isX40 w h)) hown hK hI.1 7 rfl rfl 1 (by decide) (hts _ (List.mem_cons_of_mem _ mw139)) (fun _ h9 => h9) rfl dX4_diskIsReady_2 ?_
  refine lv_bipush (v := (8 : Int32)) hx hb dX4_diskIsReady_5 (by decide) ?_
  refine lv_ior hx hb dX4_diskIsReady_7 ?_
  refine va_put (D := gD g) (ci := 4) (C := RX4) (T := TX4) (N := 6) (v := .int ((gI st 3) ||| (8 : Int32))) (ty := .int) hx hb hts (fun w h => List.mem_cons_of_mem _ (isX40 w h)) tyX4 tyX4_ok nmX4 hown hK hI.1 hI.2.1 hI.2.2 7 rfl rfl 1 (by decide) (hts _ (List.mem_cons_of_mem _ mw139)) (fun _ h9 => h9) rfl (by decide +kernel) rfl rfl (Nat.le_of_ble_eq_true rfl) dX4_diskIsReady_8 (fun H locs hP hD hS => ?_)
  have hI : cI (gD g) vwCl (cw g) A s (sI st 3 ((gI st 3) ||| (8 : Int32))) H locs := ⟨hP, hD, hS⟩
  refine lv_aload_n hx hb dX4_diskIsReady_11 rfl (lv_at hl 0 rfl) ?_
  refine lv_dup hx hb dX4_diskIsReady_12 rfl ?_
  refine va_get (D := gD g) (ci := 4) (C := RX4) (T := TX4) (N := 6) (v := .int (gI st 4)) hx hb hts (fun w h => List.mem_cons_of_mem _ (isX40 w h)) hown hK hI.1 7 rfl rfl 2 (by decide) (hts _ (List.mem_cons_of_mem _ mw140)) (fun _ h9 => h9) rfl dX4_diskIsReady_13 ?_
  refine lv_iconst (v := (1 : Int32)) hx hb dX4_diskIsReady_16 (by decide) ?_
  refine lv_ior hx hb dX4_diskIsReady_17 ?_
  refine va_put (D := gD g) (ci := 4) (C := RX4) (T := TX4) (N := 6) (v := .int ((gI st 4) ||| (1 : Int32))) (ty := .int) hx hb hts (fun w h => List.mem_cons_of_mem _ (isX40 w h)) tyX4 tyX4_ok nmX4 hown hK hI.1 hI.2.1 hI.2.2 7 rfl rfl 2 (by decide) (hts _ (List.mem_cons_of_mem _ mw140)) (fun _ h9 => h9) rfl (by decide +kernel) rfl rfl (Nat.le_of_ble_eq_true rfl) dX4_diskIsReady_18 (fun H locs hP hD hS => ?_)
  have hI : cI (gD g) vwCl (cw g) A s (sI (sI st 3 ((gI st 3) ||| (8 : Int32))) 4 ((gI st 4) ||| (1 : Int32))) H locs := ⟨hP, hD, hS⟩
  exact cx_vret C hI hF dX4_diskIsReady_21
set_option maxHeartbeats 4000000 in
set_option maxRecDepth 100000 in
theorem c_cLines_diskIsReady (l : Launch) (g : Gm) (st : CS) : Mv l yX4_diskIsReady wq_X4_diskIsReady rm_cLines_diskIsReady (gD g) vwCl (cty g) (cw g) (cz g) [.ref (gad g 7)] st (cLines_diskIsReady st) := by
  intro sz
  refine Met.ofW (cc := cX4_diskIsReady) (maxL := 1) (ret := none) (by decide) rfl ?_
  intro p e s m args below meth c s₁ B hml hv
  obtain ⟨rfl, hsz, hP, hK, hD0, hZ⟩ := hv
  subst hsz
  have hl := lv_entry ([.ref (gad g 7)]) (n := 1) (Nat.le_of_ble_eq_true rfl)
  rw [lg_entry_eq]
  generalize (lg_sl ([.ref (gad g 7)]) ++ List.replicate (1 - (lg_sl ([.ref (gad g 7)])).length) Slot.unset).toArray = ls at hl ⊢
  exact k_cLines_diskIsReady g ⟨B.exec, B.bytes, B.returns, hml, findClass_of_methodNamed B.named, atoms_spec (ws := wq_X4_diskIsReady) B.pre, B.notSynchronized, hK, fun q h => Or.inr h, hZ, cz_ok g⟩ st  _ _ ls ⟨hP, hD0.self, va_S.rf⟩ hl _ rfl
abbrev wq_X4_diskIsSeen : List Cond := .code yX4_diskIsSeen cX4_diskIsSeen 1 none :: wAll
theorem yd_yX4_diskIsSeen : yX4_diskIsSeen.cls = RX4 ∧ yX4_diskIsSeen.cls ≠ "java/lang/invoke/MethodHandle" ∧ yX4_diskIsSeen.cls ≠ "java/lang/invoke/VarHandle" ∧ (parseMethodDescriptor yX4_diskIsSeen.desc).map (fun d => d.parameters.length) = some 0 := by decide +kernel
abbrev rm_cLines_diskIsSeen : Room := { frames := 0, cells := 0, slots := 0, locals := 0 }
def cLines_diskIsSeen (st : CS) : CS := (sI (sI st 3 ((gI st 3) &&& (-9 : Int32))) 4 ((gI st 4) &&& (-2 : Int32)))
set_option maxHeartbeats 4000000 in
set_option maxRecDepth 100000 in
theorem k_cLines_diskIsSeen {p : Program} {l : Launch} {e : Env} {s : State} {m : MethodId} {args : Array Value} {below : List Frame} {meth : Method} {c : Code} {A : Nat → Prop} (g : Gm) (C : cX p s m args meth c A cX4_diskIsSeen none 1 RX4 wq_X4_diskIsSeen (gD g) vwCl (cty g) (cz g)) (st : CS) (H : Heap) (locs : List Loc) (ls : Array Slot) (hI : cI (gD g) vwCl (cw g) A s st H locs) (hl : lv_has ls 1 [(0, .ref (gad g 7))]) (X : CS) (hF : X = cLines_diskIsSeen st) : W p l e rm_cLines_diskIsSeen s m args below meth c H locs 0 0 (MQ below (cQv (gD g) vwCl (cty g) (cw g) A X) args s 0 0 A) (F0 m 0 ls []) := by
  obtain ⟨hx, hb, hr, hml, hown, hts, hlocks, hK, hA, hZ, hzo⟩ := id C
  unfold cLines_diskIsSeen at hF
  refine lv_aload_n hx hb dX4_diskIsSeen_0 rfl (lv_at hl 0 rfl) ?_
  refine lv_dup hx hb dX4_diskIsSeen_1 rfl ?_
  refine va_get (D := gD g) (ci := 4) (C := RX4) (T := TX4) (N := 6) (v := .int (gI st 3)) hx hb hts (fun w h => List.mem_cons_of_mem _ (isX40 w h)) hown hK hI.1 7 rfl rfl 1 (by decide) (hts _ (List.mem_cons_of_mem _ mw139)) (fun _ h9 => h9) rfl dX4_diskIsSeen_2 ?_
  refine lv_bipush (v := (-9 : Int32)) hx hb dX4_diskIsSeen_5 (by decide) ?_
  refine lv_iand hx hb dX4_diskIsSeen_7 ?_
  refine va_put (D := gD g) (ci := 4) (C := RX4) (T := TX4) (N := 6) (v := .int ((gI st 3) &&& (-9 : Int32))) (ty := .int) hx hb hts (fun w h => List.mem_cons_of_mem _ (isX40 w h)) tyX4 tyX4_ok nmX4 hown hK hI.1 hI.2.1 hI.2.2 7 rfl rfl 1 (by decide) (hts _ (List.mem_cons_of_mem _ mw139)) (fun _ h9 => h9) rfl (by decide +kernel) rfl rfl (Nat.le_of_ble_eq_true rfl) dX4_diskIsSeen_8 (fun H locs hP hD hS => ?_)
  have hI : cI (gD g) vwCl (cw g) A s (sI st 3 ((gI st 3) &&& (-9 : Int32))) H locs := ⟨hP, hD, hS⟩
  refine lv_aload_n hx hb dX4_diskIsSeen_11 rfl (lv_at hl 0 rfl) ?_
  refine lv_dup hx hb dX4_diskIsSeen_12 rfl ?_
  refine va_get (D := gD g) (ci := 4) (C := RX4) (T := TX4) (N := 6) (v := .int (gI st 4)) hx hb hts (fun w h => List.mem_cons_of_mem _ (isX40 w h)) hown hK hI.1 7 rfl rfl 2 (by decide) (hts _ (List.mem_cons_of_mem _ mw140)) (fun _ h9 => h9) rfl dX4_diskIsSeen_13 ?_
  refine lv_bipush (v := (-2 : Int32)) hx hb dX4_diskIsSeen_16 (by decide) ?_
  refine lv_iand hx hb dX4_diskIsSeen_18 ?_
  refine va_put (D := gD g) (ci := 4) (C := RX4) (T := TX4) (N := 6) (v := .int ((gI st 4) &&& (-2 : Int32))) (ty := .int) hx hb hts (fun w h => List.mem_cons_of_mem _ (isX40 w h)) tyX4 tyX4_ok nmX4 hown hK hI.1 hI.2.1 hI.2.2 7 rfl rfl 2 (by decide) (hts _ (List.mem_cons_of_mem _ mw140)) (fun _ h9 => h9) rfl (by decide +kernel) rfl rfl (Nat.le_of_ble_eq_true rfl) dX4_diskIsSeen_19 (fun H locs hP hD hS => ?_)
  have hI : cI (gD g) vwCl (cw g) A s (sI (sI st 3 ((gI st 3) &&& (-9 : Int32))) 4 ((gI st 4) &&& (-2 : Int32))) H locs := ⟨hP, hD, hS⟩
  exact cx_vret C hI hF dX4_diskIsSeen_22
set_option maxHeartbeats 4000000 in
set_option maxRecDepth 100000 in
theorem c_cLines_diskIsSeen (l : Launch) (g : Gm) (st : CS) : Mv l yX4_diskIsSeen wq_X4_diskIsSeen rm_cLines_diskIsSeen (gD g) vwCl (cty g) (cw g) (cz g) [.ref (gad g 7)] st (cLines_diskIsSeen st) := by
  intro sz
  refine Met.ofW (cc := cX4_diskIsSeen) (maxL := 1) (ret := none) (by decide) rfl ?_
  intro p e s m args below meth c s₁ B hml hv
  obtain ⟨rfl, hsz, hP, hK, hD0, hZ⟩ := hv
  subst hsz
  have hl := lv_entry ([.ref (gad g 7)]) (n := 1) (Nat.le_of_ble_eq_true rfl)
  rw [lg_entry_eq]
  generalize (lg_sl ([.ref (gad g 7)]) ++ List.replicate (1 - (lg_sl ([.ref (gad g 7)])).length) Slot.unset).toArray = ls at hl ⊢
  exact k_cLines_diskIsSeen g ⟨B.exec, B.bytes, B.returns, hml, findClass_of_methodNamed B.named, atoms_spec (ws := wq_X4_diskIsSeen) B.pre, B.notSynchronized, hK, fun q h => Or.inr h, hZ, cz_ok g⟩ st  _ _ ls ⟨hP, hD0.self, va_S.rf⟩ hl _ rfl
abbrev wq_X9_begin : List Cond := .code yX9_begin cX9_begin 1 none :: wAll
theorem yd_yX9_begin : yX9_begin.cls = RX9 ∧ yX9_begin.cls ≠ "java/lang/invoke/MethodHandle" ∧ yX9_begin.cls ≠ "java/lang/invoke/VarHandle" ∧ (parseMethodDescriptor yX9_begin.desc).map (fun d => d.parameters.length) = some 0 := by decide +kernel
abbrev rm_cTimer_begin0 : Room := { frames := 0, cells := 0, slots := 0, locals := 0 }
def cTimer_begin0 (st : CS) : CS := (sI (sI (sI st 18 (0 : Int32)) 19 (0 : Int32)) 20 (0 : Int32))
set_option maxHeartbeats 4000000 in
set_option maxRecDepth 100000 in
theorem k_cTimer_begin0 {p : Program} {l : Launch} {e : Env} {s : State} {m : MethodId} {args : Array Value} {below : List Frame} {meth : Method} {c : Code} {A : Nat → Prop} (g : Gm) (C : cX p s m args meth c A cX9_begin none 1 RX9 wq_X9_begin (gD g) vwCl (cty g) (cz g)) (st : CS) (H : Heap) (locs : List Loc) (ls : Array Slot) (hI : cI (gD g) vwCl (cw g) A s st H locs) (hl : lv_has ls 1 [(0, .ref (gad g 13))]) (X : CS) (hF : X = cTimer_begin0 st) : W p l e rm_cTimer_begin0 s m args below meth c H locs 0 0 (MQ below (cQv (gD g) vwCl (cty g) (cw g) A X) args s 0 0 A) (F0 m 0 ls []) := by
  obtain ⟨hx, hb, hr, hml, hown, hts, hlocks, hK, hA, hZ, hzo⟩ := id C
  unfold cTimer_begin0 at hF
  refine lv_aload_n hx hb dX9_begin_0 rfl (lv_at hl 0 rfl) ?_
  refine lv_iconst (v := (0 : Int32)) hx hb dX9_begin_1 (by decide) ?_
  refine va_put (D := gD g) (ci := 9) (C := RX9) (T := TX9) (N := 3) (v := .int (0 : Int32)) (ty := .int) hx hb hts (fun w h => List.mem_cons_of_mem _ (isX90 w h)) tyX9 tyX9_ok nmX9 hown hK hI.1 hI.2.1 hI.2.2 13 rfl rfl 0 (by decide) (hts _ (List.mem_cons_of_mem _ mw167)) (fun _ h9 => h9) rfl (by decide +kernel) rfl rfl (Nat.le_of_ble_eq_true rfl) dX9_begin_2 (fun H locs hP hD hS => ?_)
  have hI : cI (gD g) vwCl (cw g) A s (sI st 18 (0 : Int32)) H locs := ⟨hP, hD, hS⟩
  refine lv_aload_n hx hb dX9_begin_5 rfl (lv_at hl 0 rfl) ?_
  refine lv_iconst (v := (0 : Int32)) hx hb dX9_begin_6 (by decide) ?_
  refine va_put (D := gD g) (ci := 9) (C := RX9) (T := TX9) (N := 3) (v := .int (0 : Int32)) (ty := .int) hx hb hts (fun w h => List.mem_cons_of_mem _ (isX90 w h)) tyX9 tyX9_ok nmX9 hown hK hI.1 hI.2.1 hI.2.2 13 rfl rfl 1 (by decide) (hts _ (List.mem_cons_of_mem _ mw168)) (fun _ h9 => h9) rfl (by decide +kernel) rfl rfl (Nat.le_of_ble_eq_true rfl) dX9_begin_7 (fun H locs hP hD hS => ?_)
  have hI : cI (gD g) vwCl (cw g) A s (sI (sI st 18 (0 : Int32)) 19 (0 : Int32)) H locs := ⟨hP, hD, hS⟩
  refine lv_aload_n hx hb dX9_begin_10 rfl (lv_at hl 0 rfl) ?_
  refine lv_iconst (v := (0 : Int32)) hx hb dX9_begin_11 (by decide) ?_
  refine va_put (D := gD g) (ci := 9) (C := RX9) (T := TX9) (N := 3) (v := .int (0 : Int32)) (ty := .int) hx hb hts (fun w h => List.mem_cons_of_mem _ (isX90 w h)) tyX9 tyX9_ok nmX9 hown hK hI.1 hI.2.1 hI.2.2 13 rfl rfl 2 (by decide) (hts _ (List.mem_cons_of_mem _ mw169)) (fun _ h9 => h9) rfl (by decide +kernel) rfl rfl (Nat.le_of_ble_eq_true rfl) dX9_begin_12 (fun H locs hP hD hS => ?_)
  have hI : cI (gD g) vwCl (cw g) A s (sI (sI (sI st 18 (0 : Int32)) 19 (0 : Int32)) 20 (0 : Int32)) H locs := ⟨hP, hD, hS⟩
  exact cx_vret C hI hF dX9_begin_15
set_option maxHeartbeats 4000000 in
set_option maxRecDepth 100000 in
theorem c_cTimer_begin0 (l : Launch) (g : Gm) (st : CS) : Mv l yX9_begin wq_X9_begin rm_cTimer_begin0 (gD g) vwCl (cty g) (cw g) (cz g) [.ref (gad g 13)] st (cTimer_begin0 st) := by
  intro sz
  refine Met.ofW (cc := cX9_begin) (maxL := 1) (ret := none) (by decide) rfl ?_
  intro p e s m args below meth c s₁ B hml hv
  obtain ⟨rfl, hsz, hP, hK, hD0, hZ⟩ := hv
  subst hsz
  have hl := lv_entry ([.ref (gad g 13)]) (n := 1) (Nat.le_of_ble_eq_true rfl)
  rw [lg_entry_eq]
  generalize (lg_sl ([.ref (gad g 13)]) ++ List.replicate (1 - (lg_sl ([.ref (gad g 13)])).length) Slot.unset).toArray = ls at hl ⊢
  exact k_cTimer_begin0 g ⟨B.exec, B.bytes, B.returns, hml, findClass_of_methodNamed B.named, atoms_spec (ws := wq_X9_begin) B.pre, B.notSynchronized, hK, fun q h => Or.inr h, hZ, cz_ok g⟩ st  _ _ ls ⟨hP, hD0.self, va_S.rf⟩ hl _ rfl
abbrev rm_cTimer_begin1 : Room := { frames := 0, cells := 0, slots := 0, locals := 0 }
def cTimer_begin1 (st : CS) : CS := (sI (sI (sI st 21 (0 : Int32)) 22 (0 : Int32)) 23 (0 : Int32))
set_option maxHeartbeats 4000000 in
set_option maxRecDepth 100000 in
theorem k_cTimer_begin1 {p : Program} {l : Launch} {e : Env} {s : State} {m : MethodId} {args : Array Value} {below : List Frame} {meth : Method} {c : Code} {A : Nat → Prop} (g : Gm) (C : cX p s m args meth c A cX9_begin none 1 RX9 wq_X9_begin (gD g) vwCl (cty g) (cz g)) (st : CS) (H : Heap) (locs : List Loc) (ls : Array Slot) (hI : cI (gD g) vwCl (cw g) A s st H locs) (hl : lv_has ls 1 [(0, .ref (gad g 14))]) (X : CS) (hF : X = cTimer_begin1 st) : W p l e rm_cTimer_begin1 s m args below meth c H locs 0 0 (MQ below (cQv (gD g) vwCl (cty g) (cw g) A X) args s 0 0 A) (F0 m 0 ls []) := by
  obtain ⟨hx, hb, hr, hml, hown, hts, hlocks, hK, hA, hZ, hzo⟩ := id C
  unfold cTimer_begin1 at hF
  refine lv_aload_n hx hb dX9_begin_0 rfl (lv_at hl 0 rfl) ?_
  refine lv_iconst (v := (0 : Int32)) hx hb dX9_begin_1 (by decide) ?_
  refine va_put (D := gD g) (ci := 9) (C := RX9) (T := TX9) (N := 3) (v := .int (0 : Int32)) (ty := .int) hx hb hts (fun w h => List.mem_cons_of_mem _ (isX90 w h)) tyX9 tyX9_ok nmX9 hown hK hI.1 hI.2.1 hI.2.2 14 rfl rfl 0 (by decide) (hts _ (List.mem_cons_of_mem _ mw167)) (fun _ h9 => h9) rfl (by decide +kernel) rfl rfl (Nat.le_of_ble_eq_true rfl) dX9_begin_2 (fun H locs hP hD hS => ?_)
  have hI : cI (gD g) vwCl (cw g) A s (sI st 21 (0 : Int32)) H locs := ⟨hP, hD, hS⟩
  refine lv_aload_n hx hb dX9_begin_5 rfl (lv_at hl 0 rfl) ?_
  refine lv_iconst (v := (0 : Int32)) hx hb dX9_begin_6 (by decide) ?_
  refine va_put (D := gD g) (ci := 9) (C := RX9) (T := TX9) (N := 3) (v := .int (0 : Int32)) (ty := .int) hx hb hts (fun w h => List.mem_cons_of_mem _ (isX90 w h)) tyX9 tyX9_ok nmX9 hown hK hI.1 hI.2.1 hI.2.2 14 rfl rfl 1 (by decide) (hts _ (List.mem_cons_of_mem _ mw168)) (fun _ h9 => h9) rfl (by decide +kernel) rfl rfl (Nat.le_of_ble_eq_true rfl) dX9_begin_7 (fun H locs hP hD hS => ?_)
  have hI : cI (gD g) vwCl (cw g) A s (sI (sI st 21 (0 : Int32)) 22 (0 : Int32)) H locs := ⟨hP, hD, hS⟩
  refine lv_aload_n hx hb dX9_begin_10 rfl (lv_at hl 0 rfl) ?_
  refine lv_iconst (v := (0 : Int32)) hx hb dX9_begin_11 (by decide) ?_
  refine va_put (D := gD g) (ci := 9) (C := RX9) (T := TX9) (N := 3) (v := .int (0 : Int32)) (ty := .int) hx hb hts (fun w h => List.mem_cons_of_mem _ (isX90 w h)) tyX9 tyX9_ok nmX9 hown hK hI.1 hI.2.1 hI.2.2 14 rfl rfl 2 (by decide) (hts _ (List.mem_cons_of_mem _ mw169)) (fun _ h9 => h9) rfl (by decide +kernel) rfl rfl (Nat.le_of_ble_eq_true rfl) dX9_begin_12 (fun H locs hP hD hS => ?_)
  have hI : cI (gD g) vwCl (cw g) A s (sI (sI (sI st 21 (0 : Int32)) 22 (0 : Int32)) 23 (0 : Int32)) H locs := ⟨hP, hD, hS⟩
  exact cx_vret C hI hF dX9_begin_15
set_option maxHeartbeats 4000000 in
set_option maxRecDepth 100000 in
theorem c_cTimer_begin1 (l : Launch) (g : Gm) (st : CS) : Mv l yX9_begin wq_X9_begin rm_cTimer_begin1 (gD g) vwCl (cty g) (cw g) (cz g) [.ref (gad g 14)] st (cTimer_begin1 st) := by
  intro sz
  refine Met.ofW (cc := cX9_begin) (maxL := 1) (ret := none) (by decide) rfl ?_
  intro p e s m args below meth c s₁ B hml hv
  obtain ⟨rfl, hsz, hP, hK, hD0, hZ⟩ := hv
  subst hsz
  have hl := lv_entry ([.ref (gad g 14)]) (n := 1) (Nat.le_of_ble_eq_true rfl)
  rw [lg_entry_eq]
  generalize (lg_sl ([.ref (gad g 14)]) ++ List.replicate (1 - (lg_sl ([.ref (gad g 14)])).length) Slot.unset).toArray = ls at hl ⊢
  exact k_cTimer_begin1 g ⟨B.exec, B.bytes, B.returns, hml, findClass_of_methodNamed B.named, atoms_spec (ws := wq_X9_begin) B.pre, B.notSynchronized, hK, fun q h => Or.inr h, hZ, cz_ok g⟩ st  _ _ ls ⟨hP, hD0.self, va_S.rf⟩ hl _ rfl
abbrev wq_X9_write : List Cond := .code yX9_write cX9_write 3 none :: wAll
theorem yd_yX9_write : yX9_write.cls = RX9 ∧ yX9_write.cls ≠ "java/lang/invoke/MethodHandle" ∧ yX9_write.cls ≠ "java/lang/invoke/VarHandle" ∧ (parseMethodDescriptor yX9_write.desc).map (fun d => d.parameters.length) = some 2 := by decide +kernel
abbrev rm_cTimer_write0 : Room := { frames := 0, cells := 0, slots := 0, locals := 0 }
def cTimer_write0 (st : CS) (x1 : Int32) (x2 : Int32) : CS := (if x1 = (0 : Int32) then (sI st 18 (((gI st 18) &&& (65280 : Int32)) ||| x2)) else (if x1 = (1 : Int32) then (sI st 18 (((gI st 18) &&& (255 : Int32)) ||| (x2 <<< ((8 : Int32) &&& 31)))) else (if x1 = (2 : Int32) then (sI st 19 (gI st 18)) else (sI st 20 (gI st 19)))))
set_option maxHeartbeats 4000000 in
set_option maxRecDepth 100000 in
theorem k_cTimer_write0 {p : Program} {l : Launch} {e : Env} {s : State} {m : MethodId} {args : Array Value} {below : List Frame} {meth : Method} {c : Code} {A : Nat → Prop} (g : Gm) (C : cX p s m args meth c A cX9_write none 3 RX9 wq_X9_write (gD g) vwCl (cty g) (cz g)) (st : CS) (x1 : Int32) (x2 : Int32) (H : Heap) (locs : List Loc) (ls : Array Slot) (hI : cI (gD g) vwCl (cw g) A s st H locs) (hl : lv_has ls 3 [(0, .ref (gad g 13)), (1, .int x1), (2, .int x2)]) (X : CS) (hF : X = cTimer_write0 st x1 x2) : W p l e rm_cTimer_write0 s m args below meth c H locs 0 0 (MQ below (cQv (gD g) vwCl (cty g) (cw g) A X) args s 0 0 A) (F0 m 0 ls []) := by
  obtain ⟨hx, hb, hr, hml, hown, hts, hlocks, hK, hA, hZ, hzo⟩ := id C
  unfold cTimer_write0 at hF
  refine lv_iload_n hx hb dX9_write_0 rfl (lv_at hl 1 rfl) ?_
  by_cases c_1_0 : x1 = (0 : Int32)
  · have hF := hF.trans (if_pos c_1_0)
    refine lv_tableIn (off := 27) (tgt := 28) hx hb dX9_write_1 (by rw [c_1_0]; decide) (by rw [c_1_0]; decide) (by rw [c_1_0]; rfl) (by decide) ?_
    refine lv_aload_n hx hb dX9_write_28 rfl (lv_at hl 0 rfl) ?_
    refine lv_aload_n hx hb dX9_write_29 rfl (lv_at hl 0 rfl) ?_
    refine va_get (D := gD g) (ci := 9) (C := RX9) (T := TX9) (N := 3) (v := .int (gI st 18)) hx hb hts (fun w h => List.mem_cons_of_mem _ (isX90 w h)) hown hK hI.1 13 rfl rfl 0 (by decide) (hts _ (List.mem_cons_of_mem _ mw167)) (fun _ h9 => h9) rfl dX9_write_30 ?_
    refine lv_ldc (v := (65280 : Int32)) hx hb hown (hts _ (List.mem_cons_of_mem _ mw624)) dX9_write_33 ?_
    refine lv_iand hx hb dX9_write_35 ?_
    refine lv_iload_n hx hb dX9_write_36 rfl (lv_at hl 2 rfl) ?_
    refine lv_ior hx hb dX9_write_37 ?_
    refine va_put (D := gD g) (ci := 9) (C := RX9) (T := TX9) (N := 3) (v := .int (((gI st 18) &&& (65280 : Int32)) ||| x2)) (ty := .int) hx hb hts (fun w h => List.mem_cons_of_mem _ (isX90 w h)) tyX9 tyX9_ok nmX9 hown hK hI.1 hI.2.1 hI.2.2 13 rfl rfl 0 (by decide) (hts _ (List.mem_cons_of_mem _ mw167)) (fun _ h9 => h9) rfl (by decide +kernel) rfl rfl (Nat.le_of_ble_eq_true rfl) dX9_write_38 (fun H locs hP hD hS => ?_)
    have hI : cI (gD g) vwCl (cw g) A s (sI st 18 (((gI st 18) &&& (65280 : Int32)) ||| x2)) H locs := ⟨hP, hD, hS⟩
    refine lv_goto (tgt := 83) hx hb dX9_write_41 (by decide) ?_
    exact cx_vret C hI hF dX9_write_83
  · have hF := hF.trans (if_neg c_1_0)
    by_cases c_1_1 : x1 = (1 : Int32)
    · have hF := hF.trans (if_pos c_1_1)
      refine lv_tableIn (off := 43) (tgt := 44) hx hb dX9_write_1 (by rw [c_1_1]; decide) (by rw [c_1_1]; decide) (by rw [c_1_1]; rfl) (by decide) ?_
      refine lv_aload_n hx hb dX9_write_44 rfl (lv_at hl 0 rfl) ?_
      refine lv_aload_n hx hb dX9_write_45 rfl (lv_at hl 0 rfl) ?_
      refine va_get (D := gD g) (ci := 9) (C := RX9) (T := TX9) (N := 3) (v := .int (gI st 18)) hx hb hts (fun w h => List.mem_cons_of_mem _ (isX90 w h)) hown hK hI.1 13 rfl rfl 0 (by decide) (hts _ (List.mem_cons_of_mem _ mw167)) (fun _ h9 => h9) rfl dX9_write_46 ?_
      refine lv_sipush (v := (255 : Int32)) hx hb dX9_write_49 (by decide) ?_
      refine lv_iand hx hb dX9_write_52 ?_
      refine lv_iload_n hx hb dX9_write_53 rfl (lv_at hl 2 rfl) ?_
      refine lv_bipush (v := (8 : Int32)) hx hb dX9_write_54 (by decide) ?_
      refine lv_ishl hx hb dX9_write_56 ?_
      refine lv_ior hx hb dX9_write_57 ?_
      refine va_put (D := gD g) (ci := 9) (C := RX9) (T := TX9) (N := 3) (v := .int (((gI st 18) &&& (255 : Int32)) ||| (x2 <<< ((8 : Int32) &&& 31)))) (ty := .int) hx hb hts (fun w h => List.mem_cons_of_mem _ (isX90 w h)) tyX9 tyX9_ok nmX9 hown hK hI.1 hI.2.1 hI.2.2 13 rfl rfl 0 (by decide) (hts _ (List.mem_cons_of_mem _ mw167)) (fun _ h9 => h9) rfl (by decide +kernel) rfl rfl (Nat.le_of_ble_eq_true rfl) dX9_write_58 (fun H locs hP hD hS => ?_)
      have hI : cI (gD g) vwCl (cw g) A s (sI st 18 (((gI st 18) &&& (255 : Int32)) ||| (x2 <<< ((8 : Int32) &&& 31)))) H locs := ⟨hP, hD, hS⟩
      refine lv_goto (tgt := 83) hx hb dX9_write_61 (by decide) ?_
      exact cx_vret C hI hF dX9_write_83
    · have hF := hF.trans (if_neg c_1_1)
      by_cases c_1_2 : x1 = (2 : Int32)
      · have hF := hF.trans (if_pos c_1_2)
        refine lv_tableIn (off := 63) (tgt := 64) hx hb dX9_write_1 (by rw [c_1_2]; decide) (by rw [c_1_2]; decide) (by rw [c_1_2]; rfl) (by decide) ?_
        refine lv_aload_n hx hb dX9_write_64 rfl (lv_at hl 0 rfl) ?_
        refine lv_aload_n hx hb dX9_write_65 rfl (lv_at hl 0 rfl) ?_
        refine va_get (D := gD g) (ci := 9) (C := RX9) (T := TX9) (N := 3) (v := .int (gI st 18)) hx hb hts (fun w h => List.mem_cons_of_mem _ (isX90 w h)) hown hK hI.1 13 rfl rfl 0 (by decide) (hts _ (List.mem_cons_of_mem _ mw167)) (fun _ h9 => h9) rfl dX9_write_66 ?_
        refine va_put (D := gD g) (ci := 9) (C := RX9) (T := TX9) (N := 3) (v := .int (gI st 18)) (ty := .int) hx hb hts (fun w h => List.mem_cons_of_mem _ (isX90 w h)) tyX9 tyX9_ok nmX9 hown hK hI.1 hI.2.1 hI.2.2 13 rfl rfl 1 (by decide) (hts _ (List.mem_cons_of_mem _ mw168)) (fun _ h9 => h9) rfl (by decide +kernel) rfl rfl (Nat.le_of_ble_eq_true rfl) dX9_write_69 (fun H locs hP hD hS => ?_)
        have hI : cI (gD g) vwCl (cw g) A s (sI st 19 (gI st 18)) H locs := ⟨hP, hD, hS⟩
        refine lv_goto (tgt := 83) hx hb dX9_write_72 (by decide) ?_
        exact cx_vret C hI hF dX9_write_83
      · have hF := hF.trans (if_neg c_1_2)
        refine lv_tableOut (tgt := 75) hx hb dX9_write_1 (by have h0 := lv_neT (a := 0) c_1_0 (by decide); have h1 := lv_neT (a := 1) c_1_1 (by decide); have h2 := lv_neT (a := 2) c_1_2 (by decide); omega) (by decide) ?_
        refine lv_aload_n hx hb dX9_write_75 rfl (lv_at hl 0 rfl) ?_
        refine lv_aload_n hx hb dX9_write_76 rfl (lv_at hl 0 rfl) ?_
        refine va_get (D := gD g) (ci := 9) (C := RX9) (T := TX9) (N := 3) (v := .int (gI st 19)) hx hb hts (fun w h => List.mem_cons_of_mem _ (isX90 w h)) hown hK hI.1 13 rfl rfl 1 (by decide) (hts _ (List.mem_cons_of_mem _ mw168)) (fun _ h9 => h9) rfl dX9_write_77 ?_
        refine va_put (D := gD g) (ci := 9) (C := RX9) (T := TX9) (N := 3) (v := .int (gI st 19)) (ty := .int) hx hb hts (fun w h => List.mem_cons_of_mem _ (isX90 w h)) tyX9 tyX9_ok nmX9 hown hK hI.1 hI.2.1 hI.2.2 13 rfl rfl 2 (by decide) (hts _ (List.mem_cons_of_mem _ mw169)) (fun _ h9 => h9) rfl (by decide +kernel) rfl rfl (Nat.le_of_ble_eq_true rfl) dX9_write_80 (fun H locs hP hD hS => ?_)
        have hI : cI (gD g) vwCl (cw g) A s (sI st 20 (gI st 19)) H locs := ⟨hP, hD, hS⟩
        exact cx_vret C hI hF dX9_write_83
set_option maxHeartbeats 4000000 in
set_option maxRecDepth 100000 in
theorem c_cTimer_write0 (l : Launch) (g : Gm) (st : CS) (x1 : Int32) (x2 : Int32) : Mv l yX9_write wq_X9_write rm_cTimer_write0 (gD g) vwCl (cty g) (cw g) (cz g) [.ref (gad g 13), .int x1, .int x2] st (cTimer_write0 st x1 x2) := by
  intro sz
  refine Met.ofW (cc := cX9_write) (maxL := 3) (ret := none) (by decide) rfl ?_
  intro p e s m args below meth c s₁ B hml hv
  obtain ⟨rfl, hsz, hP, hK, hD0, hZ⟩ := hv
  subst hsz
  have hl := lv_entry ([.ref (gad g 13), .int x1, .int x2]) (n := 3) (Nat.le_of_ble_eq_true rfl)
  rw [lg_entry_eq]
  generalize (lg_sl ([.ref (gad g 13), .int x1, .int x2]) ++ List.replicate (3 - (lg_sl ([.ref (gad g 13), .int x1, .int x2])).length) Slot.unset).toArray = ls at hl ⊢
  exact k_cTimer_write0 g ⟨B.exec, B.bytes, B.returns, hml, findClass_of_methodNamed B.named, atoms_spec (ws := wq_X9_write) B.pre, B.notSynchronized, hK, fun q h => Or.inr h, hZ, cz_ok g⟩ st x1 x2 _ _ ls ⟨hP, hD0.self, va_S.rf⟩ hl _ rfl
abbrev rm_cTimer_write1 : Room := { frames := 0, cells := 0, slots := 0, locals := 0 }
def cTimer_write1 (st : CS) (x1 : Int32) (x2 : Int32) : CS := (if x1 = (0 : Int32) then (sI st 21 (((gI st 21) &&& (65280 : Int32)) ||| x2)) else (if x1 = (1 : Int32) then (sI st 21 (((gI st 21) &&& (255 : Int32)) ||| (x2 <<< ((8 : Int32) &&& 31)))) else (if x1 = (2 : Int32) then (sI st 22 (gI st 21)) else (sI st 23 (gI st 22)))))
set_option maxHeartbeats 4000000 in
set_option maxRecDepth 100000 in
theorem k_cTimer_write1 {p : Program} {l : Launch} {e : Env} {s : State} {m : MethodId} {args : Array Value} {below : List Frame} {meth : Method} {c : Code} {A : Nat → Prop} (g : Gm) (C : cX p s m args meth c A cX9_write none 3 RX9 wq_X9_write (gD g) vwCl (cty g) (cz g)) (st : CS) (x1 : Int32) (x2 : Int32) (H : Heap) (locs : List Loc) (ls : Array Slot) (hI : cI (gD g) vwCl (cw g) A s st H locs) (hl : lv_has ls 3 [(0, .ref (gad g 14)), (1, .int x1), (2, .int x2)]) (X : CS) (hF : X = cTimer_write1 st x1 x2) : W p l e rm_cTimer_write1 s m args below meth c H locs 0 0 (MQ below (cQv (gD g) vwCl (cty g) (cw g) A X) args s 0 0 A) (F0 m 0 ls []) := by
  obtain ⟨hx, hb, hr, hml, hown, hts, hlocks, hK, hA, hZ, hzo⟩ := id C
  unfold cTimer_write1 at hF
  refine lv_iload_n hx hb dX9_write_0 rfl (lv_at hl 1 rfl) ?_
  by_cases c_1_0 : x1 = (0 : Int32)
  · have hF := hF.trans (if_pos c_1_0)
    refine lv_tableIn (off := 27) (tgt := 28) hx hb dX9_write_1 (by rw [c_1_0]; decide) (by rw [c_1_0]; decide) (by rw [c_1_0]; rfl) (by decide) ?_
    refine lv_aload_n hx hb dX9_write_28 rfl (lv_at hl 0 rfl) ?_
    refine lv_aload_n hx hb dX9_write_29 rfl (lv_at hl 0 rfl) ?_
    refine va_get (D := gD g) (ci := 9) (C := RX9) (T := TX9) (N := 3) (v := .int (gI st 21)) hx hb hts (fun w h => List.mem_cons_of_mem _ (isX90 w h)) hown hK hI.1 14 rfl rfl 0 (by decide) (hts _ (List.mem_cons_of_mem _ mw167)) (fun _ h9 => h9) rfl dX9_write_30 ?_
    refine lv_ldc (v := (65280 : Int32)) hx hb hown (hts _ (List.mem_cons_of_mem _ mw624)) dX9_write_33 ?_
    refine lv_iand hx hb dX9_write_35 ?_
    refine lv_iload_n hx hb dX9_write_36 rfl (lv_at hl 2 rfl) ?_
    refine lv_ior hx hb dX9_write_37 ?_
    refine va_put (D := gD g) (ci := 9) (C := RX9) (T := TX9) (N := 3) (v := .int (((gI st 21) &&& (65280 : Int32)) ||| x2)) (ty := .int) hx hb hts (fun w h => List.mem_cons_of_mem _ (isX90 w h)) tyX9 tyX9_ok nmX9 hown hK hI.1 hI.2.1 hI.2.2 14 rfl rfl 0 (by decide) (hts _ (List.mem_cons_of_mem _ mw167)) (fun _ h9 => h9) rfl (by decide +kernel) rfl rfl (Nat.le_of_ble_eq_true rfl) dX9_write_38 (fun H locs hP hD hS => ?_)
    have hI : cI (gD g) vwCl (cw g) A s (sI st 21 (((gI st 21) &&& (65280 : Int32)) ||| x2)) H locs := ⟨hP, hD, hS⟩
    refine lv_goto (tgt := 83) hx hb dX9_write_41 (by decide) ?_
    exact cx_vret C hI hF dX9_write_83
  · have hF := hF.trans (if_neg c_1_0)
    by_cases c_1_1 : x1 = (1 : Int32)
    · have hF := hF.trans (if_pos c_1_1)
      refine lv_tableIn (off := 43) (tgt := 44) hx hb dX9_write_1 (by rw [c_1_1]; decide) (by rw [c_1_1]; decide) (by rw [c_1_1]; rfl) (by decide) ?_
      refine lv_aload_n hx hb dX9_write_44 rfl (lv_at hl 0 rfl) ?_
      refine lv_aload_n hx hb dX9_write_45 rfl (lv_at hl 0 rfl) ?_
      refine va_get (D := gD g) (ci := 9) (C := RX9) (T := TX9) (N := 3) (v := .int (gI st 21)) hx hb hts (fun w h => List.mem_cons_of_mem _ (isX90 w h)) hown hK hI.1 14 rfl rfl 0 (by decide) (hts _ (List.mem_cons_of_mem _ mw167)) (fun _ h9 => h9) rfl dX9_write_46 ?_
      refine lv_sipush (v := (255 : Int32)) hx hb dX9_write_49 (by decide) ?_
      refine lv_iand hx hb dX9_write_52 ?_
      refine lv_iload_n hx hb dX9_write_53 rfl (lv_at hl 2 rfl) ?_
      refine lv_bipush (v := (8 : Int32)) hx hb dX9_write_54 (by decide) ?_
      refine lv_ishl hx hb dX9_write_56 ?_
      refine lv_ior hx hb dX9_write_57 ?_
      refine va_put (D := gD g) (ci := 9) (C := RX9) (T := TX9) (N := 3) (v := .int (((gI st 21) &&& (255 : Int32)) ||| (x2 <<< ((8 : Int32) &&& 31)))) (ty := .int) hx hb hts (fun w h => List.mem_cons_of_mem _ (isX90 w h)) tyX9 tyX9_ok nmX9 hown hK hI.1 hI.2.1 hI.2.2 14 rfl rfl 0 (by decide) (hts _ (List.mem_cons_of_mem _ mw167)) (fun _ h9 => h9) rfl (by decide +kernel) rfl rfl (Nat.le_of_ble_eq_true rfl) dX9_write_58 (fun H locs hP hD hS => ?_)
      have hI : cI (gD g) vwCl (cw g) A s (sI st 21 (((gI st 21) &&& (255 : Int32)) ||| (x2 <<< ((8 : Int32) &&& 31)))) H locs := ⟨hP, hD, hS⟩
      refine lv_goto (tgt := 83) hx hb dX9_write_61 (by decide) ?_
      exact cx_vret C hI hF dX9_write_83
    · have hF := hF.trans (if_neg c_1_1)
      by_cases c_1_2 : x1 = (2 : Int32)
      · have hF := hF.trans (if_pos c_1_2)
        refine lv_tableIn (off := 63) (tgt := 64) hx hb dX9_write_1 (by rw [c_1_2]; decide) (by rw [c_1_2]; decide) (by rw [c_1_2]; rfl) (by decide) ?_
        refine lv_aload_n hx hb dX9_write_64 rfl (lv_at hl 0 rfl) ?_
        refine lv_aload_n hx hb dX9_write_65 rfl (lv_at hl 0 rfl) ?_
        refine va_get (D := gD g) (ci := 9) (C := RX9) (T := TX9) (N := 3) (v := .int (gI st 21)) hx hb hts (fun w h => List.mem_cons_of_mem _ (isX90 w h)) hown hK hI.1 14 rfl rfl 0 (by decide) (hts _ (List.mem_cons_of_mem _ mw167)) (fun _ h9 => h9) rfl dX9_write_66 ?_
        refine va_put (D := gD g) (ci := 9) (C := RX9) (T := TX9) (N := 3) (v := .int (gI st 21)) (ty := .int) hx hb hts (fun w h => List.mem_cons_of_mem _ (isX90 w h)) tyX9 tyX9_ok nmX9 hown hK hI.1 hI.2.1 hI.2.2 14 rfl rfl 1 (by decide) (hts _ (List.mem_cons_of_mem _ mw168)) (fun _ h9 => h9) rfl (by decide +kernel) rfl rfl (Nat.le_of_ble_eq_true rfl) dX9_write_69 (fun H locs hP hD hS => ?_)
        have hI : cI (gD g) vwCl (cw g) A s (sI st 22 (gI st 21)) H locs := ⟨hP, hD, hS⟩
        refine lv_goto (tgt := 83) hx hb dX9_write_72 (by decide) ?_
        exact cx_vret C hI hF dX9_write_83
      · have hF := hF.trans (if_neg c_1_2)
        refine lv_tableOut (tgt := 75) hx hb dX9_write_1 (by have h0 := lv_neT (a := 0) c_1_0 (by decide); have h1 := lv_neT (a := 1) c_1_1 (by decide); have h2 := lv_neT (a := 2) c_1_2 (by decide); omega) (by decide) ?_
        refine lv_aload_n hx hb dX9_write_75 rfl (lv_at hl 0 rfl) ?_
        refine lv_aload_n hx hb dX9_write_76 rfl (lv_at hl 0 rfl) ?_
        refine va_get (D := gD g) (ci := 9) (C := RX9) (T := TX9) (N := 3) (v := .int (gI st 22)) hx hb hts (fun w h => List.mem_cons_of_mem _ (isX90 w h)) hown hK hI.1 14 rfl rfl 1 (by decide) (hts _ (List.mem_cons_of_mem _ mw168)) (fun _ h9 => h9) rfl dX9_write_77 ?_
        refine va_put (D := gD g) (ci := 9) (C := RX9) (T := TX9) (N := 3) (v := .int (gI st 22)) (ty := .int) hx hb hts (fun w h => List.mem_cons_of_mem _ (isX90 w h)) tyX9 tyX9_ok nmX9 hown hK hI.1 hI.2.1 hI.2.2 14 rfl rfl 2 (by decide) (hts _ (List.mem_cons_of_mem _ mw169)) (fun _ h9 => h9) rfl (by decide +kernel) rfl rfl (Nat.le_of_ble_eq_true rfl) dX9_write_80 (fun H locs hP hD hS => ?_)
        have hI : cI (gD g) vwCl (cw g) A s (sI st 23 (gI st 22)) H locs := ⟨hP, hD, hS⟩
        exact cx_vret C hI hF dX9_write_83
set_option maxHeartbeats 4000000 in
set_option maxRecDepth 100000 in
theorem c_cTimer_write1 (l : Launch) (g : Gm) (st : CS) (x1 : Int32) (x2 : Int32) : Mv l yX9_write wq_X9_write rm_cTimer_write1 (gD g) vwCl (cty g) (cw g) (cz g) [.ref (gad g 14), .int x1, .int x2] st (cTimer_write1 st x1 x2) := by
  intro sz
  refine Met.ofW (cc := cX9_write) (maxL := 3) (ret := none) (by decide) rfl ?_
  intro p e s m args below meth c s₁ B hml hv
  obtain ⟨rfl, hsz, hP, hK, hD0, hZ⟩ := hv
  subst hsz
  have hl := lv_entry ([.ref (gad g 14), .int x1, .int x2]) (n := 3) (Nat.le_of_ble_eq_true rfl)
  rw [lg_entry_eq]
  generalize (lg_sl ([.ref (gad g 14), .int x1, .int x2]) ++ List.replicate (3 - (lg_sl ([.ref (gad g 14), .int x1, .int x2])).length) Slot.unset).toArray = ls at hl ⊢
  exact k_cTimer_write1 g ⟨B.exec, B.bytes, B.returns, hml, findClass_of_methodNamed B.named, atoms_spec (ws := wq_X9_write) B.pre, B.notSynchronized, hK, fun q h => Or.inr h, hZ, cz_ok g⟩ st x1 x2 _ _ ls ⟨hP, hD0.self, va_S.rf⟩ hl _ rfl
abbrev wq_X9_countsDown : List Cond := .code yX9_countsDown cX9_countsDown 1 (some .boolean) :: wAll
theorem yd_yX9_countsDown : yX9_countsDown.cls = RX9 ∧ yX9_countsDown.cls ≠ "java/lang/invoke/MethodHandle" ∧ yX9_countsDown.cls ≠ "java/lang/invoke/VarHandle" ∧ (parseMethodDescriptor yX9_countsDown.desc).map (fun d => d.parameters.length) = some 0 := by decide +kernel
abbrev rm_cTimer_countsDown0 : Room := { frames := 0, cells := 0, slots := 0, locals := 0 }
def cTimer_countsDown0_b26 (st : CS) (y0 : Int32) : CS × Int32 := (if ((y0 - (1 : Int32)) = 0) then ((sI st 19 (gI st 18)), (1 : Int32)) else ((sI st 19 (y0 - (1 : Int32))), (0 : Int32)))
set_option maxHeartbeats 4000000 in
set_option maxRecDepth 100000 in
theorem k_cTimer_countsDown0_b26 {p : Program} {l : Launch} {e : Env} {s : State} {m : MethodId} {args : Array Value} {below : List Frame} {meth : Method} {c : Code} {A : Nat → Prop} (g : Gm) (C : cX p s m args meth c A cX9_countsDown (some .boolean) 1 RX9 wq_X9_countsDown (gD g) vwCl (cty g) (cz g)) (st : CS) (y0 : Int32) (H : Heap) (locs : List Loc) (ls : Array Slot) (hI : cI (gD g) vwCl (cw g) A s st H locs) (hl : lv_has ls 1 [(0, .ref (gad g 13))]) (X : CS × Int32) (hF : X = cTimer_countsDown0_b26 st y0) : W p l e rm_cTimer_countsDown0 s m args below meth c H locs 0 0 (MQ below (cQi (gD g) vwCl (cty g) (cw g) A X.1 X.2) args s 0 0 A) (F0 m 26 ls [.int y0, .ref (gad g 13)]) := by
  obtain ⟨hx, hb, hr, hml, hown, hts, hlocks, hK, hA, hZ, hzo⟩ := id C
  unfold cTimer_countsDown0_b26 at hF
  refine lv_iconst (v := (1 : Int32)) hx hb dX9_countsDown_26 (by decide) ?_
  refine lv_isub hx hb dX9_countsDown_27 ?_
  refine va_put (D := gD g) (ci := 9) (C := RX9) (T := TX9) (N := 3) (v := .int (y0 - (1 : Int32))) (ty := .int) hx hb hts (fun w h => List.mem_cons_of_mem _ (isX90 w h)) tyX9 tyX9_ok nmX9 hown hK hI.1 hI.2.1 hI.2.2 13 rfl rfl 1 (by decide) (hts _ (List.mem_cons_of_mem _ mw168)) (fun _ h9 => h9) rfl (by decide +kernel) rfl rfl (Nat.le_of_ble_eq_true rfl) dX9_countsDown_28 (fun H locs hP hD hS => ?_)
  have hI : cI (gD g) vwCl (cw g) A s (sI st 19 (y0 - (1 : Int32))) H locs := ⟨hP, hD, hS⟩
  refine lv_aload_n hx hb dX9_countsDown_31 rfl (lv_at hl 0 rfl) ?_
  refine va_get (D := gD g) (ci := 9) (C := RX9) (T := TX9) (N := 3) (v := .int (y0 - (1 : Int32))) hx hb hts (fun w h => List.mem_cons_of_mem _ (isX90 w h)) hown hK hI.1 13 rfl rfl 1 (by decide) (hts _ (List.mem_cons_of_mem _ mw168)) (fun _ h9 => h9) rfl dX9_countsDown_32 ?_
  refine lv_if_eq (tgt := 40) hx hb dX9_countsDown_35 (by decide) (fun c_35 => ?_) (fun c_35 => ?_)
  · have hF := hF.trans (if_pos c_35)
    refine lv_aload_n hx hb dX9_countsDown_40 rfl (lv_at hl 0 rfl) ?_
    refine lv_aload_n hx hb dX9_countsDown_41 rfl (lv_at hl 0 rfl) ?_
    refine va_get (D := gD g) (ci := 9) (C := RX9) (T := TX9) (N := 3) (v := .int (gI st 18)) hx hb hts (fun w h => List.mem_cons_of_mem _ (isX90 w h)) hown hK hI.1 13 rfl rfl 0 (by decide) (hts _ (List.mem_cons_of_mem _ mw167)) (fun _ h9 => h9) rfl dX9_countsDown_42 ?_
    refine va_put (D := gD g) (ci := 9) (C := RX9) (T := TX9) (N := 3) (v := .int (gI st 18)) (ty := .int) hx hb hts (fun w h => List.mem_cons_of_mem _ (isX90 w h)) tyX9 tyX9_ok nmX9 hown hK hI.1 hI.2.1 hI.2.2 13 rfl rfl 1 (by decide) (hts _ (List.mem_cons_of_mem _ mw168)) (fun _ h9 => h9) rfl (by decide +kernel) rfl rfl (Nat.le_of_ble_eq_true rfl) dX9_countsDown_45 (fun H locs hP hD hS => ?_)
    have hI : cI (gD g) vwCl (cw g) A s (sI st 19 (gI st 18)) H locs := ⟨hP, hD, hS⟩
    refine lv_iconst (v := (1 : Int32)) hx hb dX9_countsDown_48 (by decide) ?_
    exact cx_zret C hI (congrArg Prod.fst hF) (congrArg Prod.snd hF) rfl dX9_countsDown_49
  · have hF := hF.trans (if_neg c_35)
    refine lv_iconst (v := (0 : Int32)) hx hb dX9_countsDown_38 (by decide) ?_
    exact cx_zret C hI (congrArg Prod.fst hF) (congrArg Prod.snd hF) rfl dX9_countsDown_39
def cTimer_countsDown0 (st : CS) : CS × Int32 := (if ((gI st 18) = 0) then (st, (0 : Int32)) else (if ((gI st 19) = 0) then (cTimer_countsDown0_b26 st (65536 : Int32)) else (cTimer_countsDown0_b26 st (gI st 19))))
set_option maxHeartbeats 4000000 in
set_option maxRecDepth 100000 in
theorem k_cTimer_countsDown0 {p : Program} {l : Launch} {e : Env} {s : State} {m : MethodId} {args : Array Value} {below : List Frame} {meth : Method} {c : Code} {A : Nat → Prop} (g : Gm) (C : cX p s m args meth c A cX9_countsDown (some .boolean) 1 RX9 wq_X9_countsDown (gD g) vwCl (cty g) (cz g)) (st : CS) (H : Heap) (locs : List Loc) (ls : Array Slot) (hI : cI (gD g) vwCl (cw g) A s st H locs) (hl : lv_has ls 1 [(0, .ref (gad g 13))]) (X : CS × Int32) (hF : X = cTimer_countsDown0 st) : W p l e rm_cTimer_countsDown0 s m args below meth c H locs 0 0 (MQ below (cQi (gD g) vwCl (cty g) (cw g) A X.1 X.2) args s 0 0 A) (F0 m 0 ls []) := by
  obtain ⟨hx, hb, hr, hml, hown, hts, hlocks, hK, hA, hZ, hzo⟩ := id C
  unfold cTimer_countsDown0 at hF
  refine lv_aload_n hx hb dX9_countsDown_0 rfl (lv_at hl 0 rfl) ?_
  refine va_get (D := gD g) (ci := 9) (C := RX9) (T := TX9) (N := 3) (v := .int (gI st 18)) hx hb hts (fun w h => List.mem_cons_of_mem _ (isX90 w h)) hown hK hI.1 13 rfl rfl 0 (by decide) (hts _ (List.mem_cons_of_mem _ mw167)) (fun _ h9 => h9) rfl dX9_countsDown_1 ?_
  refine lv_if_ne (tgt := 9) hx hb dX9_countsDown_4 (by decide) (fun c_4 => ?_) (fun c_4 => ?_)
  · have hF := hF.trans (if_neg c_4)
    refine lv_aload_n hx hb dX9_countsDown_9 rfl (lv_at hl 0 rfl) ?_
    refine lv_aload_n hx hb dX9_countsDown_10 rfl (lv_at hl 0 rfl) ?_
    refine va_get (D := gD g) (ci := 9) (C := RX9) (T := TX9) (N := 3) (v := .int (gI st 19)) hx hb hts (fun w h => List.mem_cons_of_mem _ (isX90 w h)) hown hK hI.1 13 rfl rfl 1 (by decide) (hts _ (List.mem_cons_of_mem _ mw168)) (fun _ h9 => h9) rfl dX9_countsDown_11 ?_
    refine lv_if_ne (tgt := 22) hx hb dX9_countsDown_14 (by decide) (fun c_14 => ?_) (fun c_14 => ?_)
    · have hF := hF.trans (if_neg c_14)
      refine lv_aload_n hx hb dX9_countsDown_22 rfl (lv_at hl 0 rfl) ?_
      refine va_get (D := gD g) (ci := 9) (C := RX9) (T := TX9) (N := 3) (v := .int (gI st 19)) hx hb hts (fun w h => List.mem_cons_of_mem _ (isX90 w h)) hown hK hI.1 13 rfl rfl 1 (by decide) (hts _ (List.mem_cons_of_mem _ mw168)) (fun _ h9 => h9) rfl dX9_countsDown_23 ?_
      exact k_cTimer_countsDown0_b26 g C st (gI st 19) H locs ls hI (lv_sub hl [0] rfl) X hF
    · have hF := hF.trans (if_pos c_14)
      refine lv_ldc (v := (65536 : Int32)) hx hb hown (hts _ (List.mem_cons_of_mem _ mw693)) dX9_countsDown_17 ?_
      refine lv_goto (tgt := 26) hx hb dX9_countsDown_19 (by decide) ?_
      exact k_cTimer_countsDown0_b26 g C st (65536 : Int32) H locs ls hI (lv_sub hl [0] rfl) X hF
  · have hF := hF.trans (if_pos c_4)
    refine lv_iconst (v := (0 : Int32)) hx hb dX9_countsDown_7 (by decide) ?_
    exact cx_zret C hI (congrArg Prod.fst hF) (congrArg Prod.snd hF) rfl dX9_countsDown_8
set_option maxHeartbeats 4000000 in
set_option maxRecDepth 100000 in
theorem c_cTimer_countsDown0 (l : Launch) (g : Gm) (st : CS) : Mi l yX9_countsDown wq_X9_countsDown rm_cTimer_countsDown0 (gD g) vwCl (cty g) (cw g) (cz g) [.ref (gad g 13)] st (cTimer_countsDown0 st).1 (cTimer_countsDown0 st).2 := by
  intro sz
  refine Met.ofW (cc := cX9_countsDown) (maxL := 1) (ret := (some .boolean)) (by decide) rfl ?_
  intro p e s m args below meth c s₁ B hml hv
  obtain ⟨rfl, hsz, hP, hK, hD0, hZ⟩ := hv
  subst hsz
  have hl := lv_entry ([.ref (gad g 13)]) (n := 1) (Nat.le_of_ble_eq_true rfl)
  rw [lg_entry_eq]
  generalize (lg_sl ([.ref (gad g 13)]) ++ List.replicate (1 - (lg_sl ([.ref (gad g 13)])).length) Slot.unset).toArray = ls at hl ⊢
  exact k_cTimer_countsDown0 g ⟨B.exec, B.bytes, B.returns, hml, findClass_of_methodNamed B.named, atoms_spec (ws := wq_X9_countsDown) B.pre, B.notSynchronized, hK, fun q h => Or.inr h, hZ, cz_ok g⟩ st  _ _ ls ⟨hP, hD0.self, va_S.rf⟩ hl _ rfl
abbrev rm_cTimer_countsDown1 : Room := { frames := 0, cells := 0, slots := 0, locals := 0 }
def cTimer_countsDown1_b26 (st : CS) (y0 : Int32) : CS × Int32 := (if ((y0 - (1 : Int32)) = 0) then ((sI st 22 (gI st 21)), (1 : Int32)) else ((sI st 22 (y0 - (1 : Int32))), (0 : Int32)))
set_option maxHeartbeats 4000000 in
set_option maxRecDepth 100000 in
theorem k_cTimer_countsDown1_b26 {p : Program} {l : Launch} {e : Env} {s : State} {m : MethodId} {args : Array Value} {below : List Frame} {meth : Method} {c : Code} {A : Nat → Prop} (g : Gm) (C : cX p s m args meth c A cX9_countsDown (some .boolean) 1 RX9 wq_X9_countsDown (gD g) vwCl (cty g) (cz g)) (st : CS) (y0 : Int32) (H : Heap) (locs : List Loc) (ls : Array Slot) (hI : cI (gD g) vwCl (cw g) A s st H locs) (hl : lv_has ls 1 [(0, .ref (gad g 14))]) (X : CS × Int32) (hF : X = cTimer_countsDown1_b26 st y0) : W p l e rm_cTimer_countsDown1 s m args below meth c H locs 0 0 (MQ below (cQi (gD g) vwCl (cty g) (cw g) A X.1 X.2) args s 0 0 A) (F0 m 26 ls [.int y0, .ref (gad g 14)]) := by
  obtain ⟨hx, hb, hr, hml, hown, hts, hlocks, hK, hA, hZ, hzo⟩ := id C
  unfold cTimer_countsDown1_b26 at hF
  refine lv_iconst (v := (1 : Int32)) hx hb dX9_countsDown_26 (by decide) ?_
  refine lv_isub hx hb dX9_countsDown_27 ?_
  refine va_put (D := gD g) (ci := 9) (C := RX9) (T := TX9) (N := 3) (v := .int (y0 - (1 : Int32))) (ty := .int) hx hb hts (fun w h => List.mem_cons_of_mem _ (isX90 w h)) tyX9 tyX9_ok nmX9 hown hK hI.1 hI.2.1 hI.2.2 14 rfl rfl 1 (by decide) (hts _ (List.mem_cons_of_mem _ mw168)) (fun _ h9 => h9) rfl (by decide +kernel) rfl rfl (Nat.le_of_ble_eq_true rfl) dX9_countsDown_28 (fun H locs hP hD hS => ?_)
  have hI : cI (gD g) vwCl (cw g) A s (sI st 22 (y0 - (1 : Int32))) H locs := ⟨hP, hD, hS⟩
  refine lv_aload_n hx hb dX9_countsDown_31 rfl (lv_at hl 0 rfl) ?_
  refine va_get (D := gD g) (ci := 9) (C := RX9) (T := TX9) (N := 3) (v := .int (y0 - (1 : Int32))) hx hb hts (fun w h => List.mem_cons_of_mem _ (isX90 w h)) hown hK hI.1 14 rfl rfl 1 (by decide) (hts _ (List.mem_cons_of_mem _ mw168)) (fun _ h9 => h9) rfl dX9_countsDown_32 ?_
  refine lv_if_eq (tgt := 40) hx hb dX9_countsDown_35 (by decide) (fun c_35 => ?_) (fun c_35 => ?_)
  · have hF := hF.trans (if_pos c_35)
    refine lv_aload_n hx hb dX9_countsDown_40 rfl (lv_at hl 0 rfl) ?_
    refine lv_aload_n hx hb dX9_countsDown_41 rfl (lv_at hl 0 rfl) ?_
    refine va_get (D := gD g) (ci := 9) (C := RX9) (T := TX9) (N := 3) (v := .int (gI st 21)) hx hb hts (fun w h => List.mem_cons_of_mem _ (isX90 w h)) hown hK hI.1 14 rfl rfl 0 (by decide) (hts _ (List.mem_cons_of_mem _ mw167)) (fun _ h9 => h9) rfl dX9_countsDown_42 ?_
    refine va_put (D := gD g) (ci := 9) (C := RX9) (T := TX9) (N := 3) (v := .int (gI st 21)) (ty := .int) hx hb hts (fun w h => List.mem_cons_of_mem _ (isX90 w h)) tyX9 tyX9_ok nmX9 hown hK hI.1 hI.2.1 hI.2.2 14 rfl rfl 1 (by decide) (hts _ (List.mem_cons_of_mem _ mw168)) (fun _ h9 => h9) rfl (by decide +kernel) rfl rfl (Nat.le_of_ble_eq_true rfl) dX9_countsDown_45 (fun H locs hP hD hS => ?_)
    have hI : cI (gD g) vwCl (cw g) A s (sI st 22 (gI st 21)) H locs := ⟨hP, hD, hS⟩
    refine lv_iconst (v := (1 : Int32)) hx hb dX9_countsDown_48 (by decide) ?_
    exact cx_zret C hI (congrArg Prod.fst hF) (congrArg Prod.snd hF) rfl dX9_countsDown_49
  · have hF := hF.trans (if_neg c_35)
    refine lv_iconst (v := (0 : Int32)) hx hb dX9_countsDown_38 (by decide) ?_
    exact cx_zret C hI (congrArg Prod.fst hF) (congrArg Prod.snd hF) rfl dX9_countsDown_39
def cTimer_countsDown1 (st : CS) : CS × Int32 := (if ((gI st 21) = 0) then (st, (0 : Int32)) else (if ((gI st 22) = 0) then (cTimer_countsDown1_b26 st (65536 : Int32)) else (cTimer_countsDown1_b26 st (gI st 22))))
set_option maxHeartbeats 4000000 in
set_option maxRecDepth 100000 in
theorem k_cTimer_countsDown1 {p : Program} {l : Launch} {e : Env} {s : State} {m : MethodId} {args : Array Value} {below : List Frame} {meth : Method} {c : Code} {A : Nat → Prop} (g : Gm) (C : cX p s m args meth c A cX9_countsDown (some .boolean) 1 RX9 wq_X9_countsDown (gD g) vwCl (cty g) (cz g)) (st : CS) (H : Heap) (locs : List Loc) (ls : Array Slot) (hI : cI (gD g) vwCl (cw g) A s st H locs) (hl : lv_has ls 1 [(0, .ref (gad g 14))]) (X : CS × Int32) (hF : X = cTimer_countsDown1 st) : W p l e rm_cTimer_countsDown1 s m args below meth c H locs 0 0 (MQ below (cQi (gD g) vwCl (cty g) (cw g) A X.1 X.2) args s 0 0 A) (F0 m 0 ls []) := by
  obtain ⟨hx, hb, hr, hml, hown, hts, hlocks, hK, hA, hZ, hzo⟩ := id C
  unfold cTimer_countsDown1 at hF
  refine lv_aload_n hx hb dX9_countsDown_0 rfl (lv_at hl 0 rfl) ?_
  refine va_get (D := gD g) (ci := 9) (C := RX9) (T := TX9) (N := 3) (v := .int (gI st 21)) hx hb hts (fun w h => List.mem_cons_of_mem _ (isX90 w h)) hown hK hI.1 14 rfl rfl 0 (by decide) (hts _ (List.mem_cons_of_mem _ mw167)) (fun _ h9 => h9) rfl dX9_countsDown_1 ?_
  refine lv_if_ne (tgt := 9) hx hb dX9_countsDown_4 (by decide) (fun c_4 => ?_) (fun c_4 => ?_)
  · have hF := hF.trans (if_neg c_4)
    refine lv_aload_n hx hb dX9_countsDown_9 rfl (lv_at hl 0 rfl) ?_
    refine lv_aload_n hx hb dX9_countsDown_10 rfl (lv_at hl 0 rfl) ?_
    refine va_get (D := gD g) (ci := 9) (C := RX9) (T := TX9) (N := 3) (v := .int (gI st 22)) hx hb hts (fun w h => List.mem_cons_of_mem _ (isX90 w h)) hown hK hI.1 14 rfl rfl 1 (by decide) (hts _ (List.mem_cons_of_mem _ mw168)) (fun _ h9 => h9) rfl dX9_countsDown_11 ?_
    refine lv_if_ne (tgt := 22) hx hb dX9_countsDown_14 (by decide) (fun c_14 => ?_) (fun c_14 => ?_)
    · have hF := hF.trans (if_neg c_14)
      refine lv_aload_n hx hb dX9_countsDown_22 rfl (lv_at hl 0 rfl) ?_
      refine va_get (D := gD g) (ci := 9) (C := RX9) (T := TX9) (N := 3) (v := .int (gI st 22)) hx hb hts (fun w h => List.mem_cons_of_mem _ (isX90 w h)) hown hK hI.1 14 rfl rfl 1 (by decide) (hts _ (List.mem_cons_of_mem _ mw168)) (fun _ h9 => h9) rfl dX9_countsDown_23 ?_
      exact k_cTimer_countsDown1_b26 g C st (gI st 22) H locs ls hI (lv_sub hl [0] rfl) X hF
    · have hF := hF.trans (if_pos c_14)
      refine lv_ldc (v := (65536 : Int32)) hx hb hown (hts _ (List.mem_cons_of_mem _ mw693)) dX9_countsDown_17 ?_
      refine lv_goto (tgt := 26) hx hb dX9_countsDown_19 (by decide) ?_
      exact k_cTimer_countsDown1_b26 g C st (65536 : Int32) H locs ls hI (lv_sub hl [0] rfl) X hF
  · have hF := hF.trans (if_pos c_4)
    refine lv_iconst (v := (0 : Int32)) hx hb dX9_countsDown_7 (by decide) ?_
    exact cx_zret C hI (congrArg Prod.fst hF) (congrArg Prod.snd hF) rfl dX9_countsDown_8
set_option maxHeartbeats 4000000 in
set_option maxRecDepth 100000 in
theorem c_cTimer_countsDown1 (l : Launch) (g : Gm) (st : CS) : Mi l yX9_countsDown wq_X9_countsDown rm_cTimer_countsDown1 (gD g) vwCl (cty g) (cw g) (cz g) [.ref (gad g 14)] st (cTimer_countsDown1 st).1 (cTimer_countsDown1 st).2 := by
  intro sz
  refine Met.ofW (cc := cX9_countsDown) (maxL := 1) (ret := (some .boolean)) (by decide) rfl ?_
  intro p e s m args below meth c s₁ B hml hv
  obtain ⟨rfl, hsz, hP, hK, hD0, hZ⟩ := hv
  subst hsz
  have hl := lv_entry ([.ref (gad g 14)]) (n := 1) (Nat.le_of_ble_eq_true rfl)
  rw [lg_entry_eq]
  generalize (lg_sl ([.ref (gad g 14)]) ++ List.replicate (1 - (lg_sl ([.ref (gad g 14)])).length) Slot.unset).toArray = ls at hl ⊢
  exact k_cTimer_countsDown1 g ⟨B.exec, B.bytes, B.returns, hml, findClass_of_methodNamed B.named, atoms_spec (ws := wq_X9_countsDown) B.pre, B.notSynchronized, hK, fun q h => Or.inr h, hZ, cz_ok g⟩ st  _ _ ls ⟨hP, hD0.self, va_S.rf⟩ hl _ rfl
abbrev wq_X6_isRegister : List Cond := .code yX6_isRegister cX6_isRegister 2 (some .boolean) :: wAll
theorem yd_yX6_isRegister : yX6_isRegister.cls ≠ "java/lang/invoke/MethodHandle" ∧ yX6_isRegister.cls ≠ "java/lang/invoke/VarHandle" ∧ (parseMethodDescriptor yX6_isRegister.desc).map (fun d => d.parameters.length) = some 2 := by decide +kernel
abbrev rm_cRegisters_isRegister : Room := { frames := 0, cells := 0, slots := 0, locals := 0 }
def cRegisters_isRegister (x0 : Int32) (x1 : Int32) : Int32 := (if (x0 < 0) then (0 : Int32) else (if ((3 : Int32) < x0) then (0 : Int32) else (if (x1 < 0) then (0 : Int32) else (if ((15 : Int32) < x1) then (0 : Int32) else (1 : Int32)))))
set_option maxHeartbeats 4000000 in
set_option maxRecDepth 100000 in
theorem k_cRegisters_isRegister {p : Program} {l : Launch} {e : Env} {s : State} {m : MethodId} {args : Array Value} {below : List Frame} {meth : Method} {c : Code} {A : Nat → Prop} (g : Gm) (C : cX p s m args meth c A cX6_isRegister (some .boolean) 2 RX6 wq_X6_isRegister (gD g) vwCl (cty g) (cz g)) (st : CS) (x0 : Int32) (x1 : Int32) (H : Heap) (locs : List Loc) (ls : Array Slot) (hI : cI (gD g) vwCl (cw g) A s st H locs) (hl : lv_has ls 2 [(0, .int x0), (1, .int x1)]) (X : Int32) (hF : X = cRegisters_isRegister x0 x1) : W p l e rm_cRegisters_isRegister s m args below meth c H locs 0 0 (MQ below (cQi (gD g) vwCl (cty g) (cw g) A st X) args s 0 0 A) (F0 m 0 ls []) := by
  obtain ⟨hx, hb, hr, hml, hown, hts, hlocks, hK, hA, hZ, hzo⟩ := id C
  unfold cRegisters_isRegister at hF
  refine lv_iload_n hx hb dX6_isRegister_0 rfl (lv_at hl 0 rfl) ?_
  refine lv_if_lt (tgt := 23) hx hb dX6_isRegister_1 (by decide) (fun c_1 => ?_) (fun c_1 => ?_)
  · have hF := hF.trans (if_pos c_1)
    refine lv_iconst (v := (0 : Int32)) hx hb dX6_isRegister_23 (by decide) ?_
    exact cx_zret C hI rfl hF rfl dX6_isRegister_24
  · have hF := hF.trans (if_neg c_1)
    refine lv_iload_n hx hb dX6_isRegister_4 rfl (lv_at hl 0 rfl) ?_
    refine lv_iconst (v := (3 : Int32)) hx hb dX6_isRegister_5 (by decide) ?_
    refine lv_icmp_gt (tgt := 23) hx hb dX6_isRegister_6 (by decide) (fun c_6 => ?_) (fun c_6 => ?_)
    · have hF := hF.trans (if_pos c_6)
      refine lv_iconst (v := (0 : Int32)) hx hb dX6_isRegister_23 (by decide) ?_
      exact cx_zret C hI rfl hF rfl dX6_isRegister_24
    · have hF := hF.trans (if_neg c_6)
      refine lv_iload_n hx hb dX6_isRegister_9 rfl (lv_at hl 1 rfl) ?_
      refine lv_if_lt (tgt := 23) hx hb dX6_isRegister_10 (by decide) (fun c_10 => ?_) (fun c_10 => ?_)
      · have hF := hF.trans (if_pos c_10)
        refine lv_iconst (v := (0 : Int32)) hx hb dX6_isRegister_23 (by decide) ?_
        exact cx_zret C hI rfl hF rfl dX6_isRegister_24
      · have hF := hF.trans (if_neg c_10)
        refine lv_iload_n hx hb dX6_isRegister_13 rfl (lv_at hl 1 rfl) ?_
        refine lv_bipush (v := (15 : Int32)) hx hb dX6_isRegister_14 (by decide) ?_
        refine lv_icmp_gt (tgt := 23) hx hb dX6_isRegister_16 (by decide) (fun c_16 => ?_) (fun c_16 => ?_)
        · have hF := hF.trans (if_pos c_16)
          refine lv_iconst (v := (0 : Int32)) hx hb dX6_isRegister_23 (by decide) ?_
          exact cx_zret C hI rfl hF rfl dX6_isRegister_24
        · have hF := hF.trans (if_neg c_16)
          refine lv_iconst (v := (1 : Int32)) hx hb dX6_isRegister_19 (by decide) ?_
          refine lv_goto (tgt := 24) hx hb dX6_isRegister_20 (by decide) ?_
          exact cx_zret C hI rfl hF rfl dX6_isRegister_24
set_option maxHeartbeats 4000000 in
set_option maxRecDepth 100000 in
theorem c_cRegisters_isRegister (l : Launch) (g : Gm) (st : CS) (x0 : Int32) (x1 : Int32) : Mi l yX6_isRegister wq_X6_isRegister rm_cRegisters_isRegister (gD g) vwCl (cty g) (cw g) (cz g) [.int x0, .int x1] st st (cRegisters_isRegister x0 x1) := by
  intro sz
  refine Met.ofW (cc := cX6_isRegister) (maxL := 2) (ret := (some .boolean)) (by decide) rfl ?_
  intro p e s m args below meth c s₁ B hml hv
  obtain ⟨rfl, hsz, hP, hK, hD0, hZ⟩ := hv
  subst hsz
  have hl := lv_entry ([.int x0, .int x1]) (n := 2) (Nat.le_of_ble_eq_true rfl)
  rw [lg_entry_eq]
  generalize (lg_sl ([.int x0, .int x1]) ++ List.replicate (2 - (lg_sl ([.int x0, .int x1])).length) Slot.unset).toArray = ls at hl ⊢
  exact k_cRegisters_isRegister g ⟨B.exec, B.bytes, B.returns, hml, findClass_of_methodNamed B.named, atoms_spec (ws := wq_X6_isRegister) B.pre, B.notSynchronized, hK, fun q h => Or.inr h, hZ, cz_ok g⟩ st x0 x1 _ _ ls ⟨hP, hD0.self, va_S.rf⟩ hl _ rfl
abbrev wq_X6_slot : List Cond := .code yX6_slot cX6_slot 2 (some .int) :: wAll
theorem yd_yX6_slot : yX6_slot.cls ≠ "java/lang/invoke/MethodHandle" ∧ yX6_slot.cls ≠ "java/lang/invoke/VarHandle" ∧ (parseMethodDescriptor yX6_slot.desc).map (fun d => d.parameters.length) = some 2 := by decide +kernel
abbrev rm_cRegisters_slot : Room := { frames := 0, cells := 0, slots := 0, locals := 0 }
def cRegisters_slot (x0 : Int32) (x1 : Int32) : Int32 := ((slotsV (((x0 &&& (3 : Int32)) <<< ((4 : Int32) &&& 31)) ||| (x1 &&& (15 : Int32))).toNatClampNeg) &&& (31 : Int32))
set_option maxHeartbeats 4000000 in
set_option maxRecDepth 100000 in
theorem k_cRegisters_slot {p : Program} {l : Launch} {e : Env} {s : State} {m : MethodId} {args : Array Value} {below : List Frame} {meth : Method} {c : Code} {A : Nat → Prop} (g : Gm) (C : cX p s m args meth c A cX6_slot (some .int) 2 RX6 wq_X6_slot (gD g) vwCl (cty g) (cz g)) (st : CS) (x0 : Int32) (x1 : Int32) (H : Heap) (locs : List Loc) (ls : Array Slot) (hI : cI (gD g) vwCl (cw g) A s st H locs) (hl : lv_has ls 2 [(0, .int x0), (1, .int x1)]) (X : Int32) (hF : X = cRegisters_slot x0 x1) : W p l e rm_cRegisters_slot s m args below meth c H locs 0 0 (MQ below (cQi (gD g) vwCl (cty g) (cw g) A st X) args s 0 0 A) (F0 m 0 ls []) := by
  obtain ⟨hx, hb, hr, hml, hown, hts, hlocks, hK, hA, hZ, hzo⟩ := id C
  unfold cRegisters_slot at hF
  refine va_gets (C := RX6) (v := .ref (gtS g)) hx hb hZ.1 hI.2.2 hown (hts _ (List.mem_cons_of_mem _ mw423)) (fun _ h => h) dX6_slot_0 ?_
  refine lv_iload_n hx hb dX6_slot_3 rfl (lv_at hl 0 rfl) ?_
  refine lv_iconst (v := (3 : Int32)) hx hb dX6_slot_4 (by decide) ?_
  refine lv_iand hx hb dX6_slot_5 ?_
  refine lv_iconst (v := (4 : Int32)) hx hb dX6_slot_6 (by decide) ?_
  refine lv_ishl hx hb dX6_slot_7 ?_
  refine lv_iload_n hx hb dX6_slot_8 rfl (lv_at hl 1 rfl) ?_
  refine lv_bipush (v := (15 : Int32)) hx hb dX6_slot_9 (by decide) ?_
  refine lv_iand hx hb dX6_slot_11 ?_
  refine lv_ior hx hb dX6_slot_12 ?_
  refine va_ti (v := .int (slotsV (((x0 &&& (3 : Int32)) <<< ((4 : Int32) &&& 31)) ||| (x1 &&& (15 : Int32))).toNatClampNeg)) hx hb hZ.2 hI.2.2 (vin_slot x0 x1) rfl dX6_slot_13 ?_
  refine lv_bipush (v := (31 : Int32)) hx hb dX6_slot_14 (by decide) ?_
  refine lv_iand hx hb dX6_slot_16 ?_
  exact cx_iret C hI rfl hF dX6_slot_17
set_option maxHeartbeats 4000000 in
set_option maxRecDepth 100000 in
theorem c_cRegisters_slot (l : Launch) (g : Gm) (st : CS) (x0 : Int32) (x1 : Int32) : Mi l yX6_slot wq_X6_slot rm_cRegisters_slot (gD g) vwCl (cty g) (cw g) (cz g) [.int x0, .int x1] st st (cRegisters_slot x0 x1) := by
  intro sz
  refine Met.ofW (cc := cX6_slot) (maxL := 2) (ret := (some .int)) (by decide) rfl ?_
  intro p e s m args below meth c s₁ B hml hv
  obtain ⟨rfl, hsz, hP, hK, hD0, hZ⟩ := hv
  subst hsz
  have hl := lv_entry ([.int x0, .int x1]) (n := 2) (Nat.le_of_ble_eq_true rfl)
  rw [lg_entry_eq]
  generalize (lg_sl ([.int x0, .int x1]) ++ List.replicate (2 - (lg_sl ([.int x0, .int x1])).length) Slot.unset).toArray = ls at hl ⊢
  exact k_cRegisters_slot g ⟨B.exec, B.bytes, B.returns, hml, findClass_of_methodNamed B.named, atoms_spec (ws := wq_X6_slot) B.pre, B.notSynchronized, hK, fun q h => Or.inr h, hZ, cz_ok g⟩ st x0 x1 _ _ ls ⟨hP, hD0.self, va_S.rf⟩ hl _ rfl
abbrev wq_J7_fill_53178 : List Cond := .code yJ7_fill_53178 cJ7_fill_53178 4 none :: wAll
theorem yd_yJ7_fill_53178 : yJ7_fill_53178.cls ≠ "java/lang/invoke/MethodHandle" ∧ yJ7_fill_53178.cls ≠ "java/lang/invoke/VarHandle" ∧ (parseMethodDescriptor yJ7_fill_53178.desc).map (fun d => d.parameters.length) = some 2 := by decide +kernel
abbrev rm_cArrays_fill3 : Room := { frames := 0, cells := 0, slots := 0, locals := 0 }
def cArrays_fill3_b5 : Nat → CS → Int32 → Int32 → Int32 → Option (CS)
  | 0, _, _, _, _ => none
  | n + 1, st, x1, x2, x3 => (if (x3 ≤ x2) then (some st) else (cArrays_fill3_b5 n (sA st 1 (upd (gA st 1) x2.toNatClampNeg x1)) x1 (x2 + (1 : Int32)) x3))
set_option maxHeartbeats 4000000 in
set_option maxRecDepth 100000 in
theorem k_cArrays_fill3_b5 {p : Program} {l : Launch} {e : Env} {s : State} {m : MethodId} {args : Array Value} {below : List Frame} {meth : Method} {c : Code} {A : Nat → Prop} (g : Gm) (C : cX p s m args meth c A cJ7_fill_53178 none 4 RJ7 wq_J7_fill_53178 (gD g) vwCl (cty g) (cz g)) : ∀ (n : Nat) (st : CS) (x1 : Int32) (x2 : Int32) (x3 : Int32) (H : Heap) (locs : List Loc) (ls : Array Slot), cI (gD g) vwCl (cw g) A s st H locs → lv_has ls 4 [(0, .ref (gad g 3)), (1, .int x1), (2, .int x2), (3, .int x3)] → fl_ok 32 x2 x3 → ∀ (X : CS), some X = cArrays_fill3_b5 n st x1 x2 x3 → W p l e rm_cArrays_fill3 s m args below meth c H locs 0 0 (MQ below (cQv (gD g) vwCl (cty g) (cw g) A X) args s 0 0 A) (F0 m 5 ls []) := by
  obtain ⟨hx, hb, hr, hml, hown, hts, hlocks, hK, hA, hZ, hzo⟩ := id C
  intro n
  induction n with
  | zero => intro st x1 x2 x3 H locs ls hI hl hf X hF; exact absurd hF (by simp [cArrays_fill3_b5])
  | succ n ih =>
    intro st x1 x2 x3 H locs ls hI hl hf X hF
    rw [cArrays_fill3_b5] at hF
    refine lv_iload_n hx hb dJ7_fill_53178_5 rfl (lv_at hl 2 rfl) ?_
    refine lv_iload_n hx hb dJ7_fill_53178_6 rfl (lv_at hl 3 rfl) ?_
    refine lv_icmp_ge (tgt := 20) hx hb dJ7_fill_53178_7 (by decide) (fun c_7 => ?_) (fun c_7 => ?_)
    · have hF := hF.trans (if_pos c_7)
      have hF := Option.some.inj hF
      exact cx_vret C hI hF dJ7_fill_53178_20
    · have hF := hF.trans (if_neg c_7)
      refine lv_aload_n hx hb dJ7_fill_53178_10 rfl (lv_at hl 0 rfl) ?_
      refine lv_iload_n hx hb dJ7_fill_53178_11 rfl (lv_at hl 2 rfl) ?_
      refine lv_iload_n hx hb dJ7_fill_53178_12 rfl (lv_at hl 1 rfl) ?_
      refine va_iast (f := (gA st 1)) hx hb hK hI.1 hI.2.1 hI.2.2 3 1 rfl rfl (fl_in (by decide) hf c_7) dJ7_fill_53178_13 (fun H locs hP hD hS => ?_)
      have hI : cI (gD g) vwCl (cw g) A s (sA st 1 (upd (gA st 1) x2.toNatClampNeg x1)) H locs := ⟨hP, hD, hS⟩
      refine lv_iinc (v := (x2 + (1 : Int32))) (lv' := [(2, .int (x2 + (1 : Int32))), (0, .ref (gad g 3)), (1, .int x1), (3, .int x3)]) hx hb dJ7_fill_53178_14 hl (k := 2) rfl rfl (by decide) rfl (fun ls hl => ?_)
      refine lv_goto (tgt := 5) hx hb dJ7_fill_53178_17 (by decide) ?_
      exact ih (sA st 1 (upd (gA st 1) x2.toNatClampNeg x1)) x1 (x2 + (1 : Int32)) x3 H locs ls hI (lv_sub hl [1, 2, 0, 3] rfl) (fl_st hf (by decide) c_7) X hF
def cArrays_fill3_b5t (st : CS) (x1 : Int32) (x2 : Int32) (x3 : Int32) : CS := (cArrays_fill3_b5 (33) st x1 x2 x3).getD st
theorem u_cArrays_fill3 (x1 : Int32) : ∀ (n j : Nat) (st : CS), j ≤ 32 → 32 - j < n → cArrays_fill3_b5 n st x1 (nI j) (nI 32) = some (fillS 1 st j 32 x1) := by
  intro n
  induction n with
  | zero => intro j st h1 h2; omega
  | succ n ih =>
    intro j st h1 h2
    rw [cArrays_fill3_b5]
    rcases Nat.lt_or_ge j 32 with q | q
    · rw [if_neg (nI_ge q (by decide)), show nI j + (1 : Int32) = nI (j + 1) from nI_1 j, nI_clamp (by omega), ih (j + 1) _ q (by omega), fillS_st 1 st j 32 x1 q]
    · have e : j = 32 := by omega
      subst e
      rw [if_pos (nI_le (Nat.le_refl _) (by decide)), fillS_0]
theorem t_cArrays_fill3_b5 (st : CS) (x1 x2 x3 : Int32) (hf : fl_ok 32 x2 x3) : some (cArrays_fill3_b5t st x1 x2 x3) = cArrays_fill3_b5 (33) st x1 x2 x3 := by
  obtain ⟨j, hj, rfl, rfl⟩ := hf
  exact some_getD ⟨_, u_cArrays_fill3 x1 _ j st hj (by omega)⟩
set_option maxHeartbeats 4000000 in
set_option maxRecDepth 100000 in
theorem k_cArrays_fill3_b5t {p : Program} {l : Launch} {e : Env} {s : State} {m : MethodId} {args : Array Value} {below : List Frame} {meth : Method} {c : Code} {A : Nat → Prop} (g : Gm) (C : cX p s m args meth c A cJ7_fill_53178 none 4 RJ7 wq_J7_fill_53178 (gD g) vwCl (cty g) (cz g)) (st : CS) (x1 : Int32) (x2 : Int32) (x3 : Int32) (H : Heap) (locs : List Loc) (ls : Array Slot) (hI : cI (gD g) vwCl (cw g) A s st H locs) (hl : lv_has ls 4 [(0, .ref (gad g 3)), (1, .int x1), (2, .int x2), (3, .int x3)]) (hf : fl_ok 32 x2 x3) (X : CS) (hF : X = cArrays_fill3_b5t st x1 x2 x3) : W p l e rm_cArrays_fill3 s m args below meth c H locs 0 0 (MQ below (cQv (gD g) vwCl (cty g) (cw g) A X) args s 0 0 A) (F0 m 5 ls []) := by
  refine k_cArrays_fill3_b5 g C (33) st x1 x2 x3 H locs ls hI hl hf X ?_
  rw [hF]
  exact t_cArrays_fill3_b5 st x1 x2 x3 hf
def cArrays_fill3 (st : CS) (x1 : Int32) : CS := (cArrays_fill3_b5t st x1 (0 : Int32) (32 : Int32))
set_option maxHeartbeats 4000000 in
set_option maxRecDepth 100000 in
theorem k_cArrays_fill3 {p : Program} {l : Launch} {e : Env} {s : State} {m : MethodId} {args : Array Value} {below : List Frame} {meth : Method} {c : Code} {A : Nat → Prop} (g : Gm) (C : cX p s m args meth c A cJ7_fill_53178 none 4 RJ7 wq_J7_fill_53178 (gD g) vwCl (cty g) (cz g)) (st : CS) (x1 : Int32) (H : Heap) (locs : List Loc) (ls : Array Slot) (hI : cI (gD g) vwCl (cw g) A s st H locs) (hl : lv_has ls 4 [(0, .ref (gad g 3)), (1, .int x1)]) (X : CS) (hF : X = cArrays_fill3 st x1) : W p l e rm_cArrays_fill3 s m args below meth c H locs 0 0 (MQ below (cQv (gD g) vwCl (cty g) (cw g) A X) args s 0 0 A) (F0 m 0 ls []) := by
  obtain ⟨hx, hb, hr, hml, hown, hts, hlocks, hK, hA, hZ, hzo⟩ := id C
  unfold cArrays_fill3 at hF
  refine lv_iconst (v := (0 : Int32)) hx hb dJ7_fill_53178_0 (by decide) ?_
  refine lv_istore_n (lv' := [(2, .int (0 : Int32)), (0, .ref (gad g 3)), (1, .int x1)]) hx hb dJ7_fill_53178_1 rfl hl (by decide) rfl (fun ls hl => ?_)
  refine lv_aload_n hx hb dJ7_fill_53178_2 rfl (lv_at hl 1 rfl) ?_
  refine va_alen (v := (32 : Int32)) hx hb hK hI.1 3 1 rfl rfl rfl dJ7_fill_53178_3 ?_
  refine lv_istore_n (lv' := [(3, .int (32 : Int32)), (2, .int (0 : Int32)), (0, .ref (gad g 3)), (1, .int x1)]) hx hb dJ7_fill_53178_4 rfl hl (by decide) rfl (fun ls hl => ?_)
  exact k_cArrays_fill3_b5t g C st x1 (0 : Int32) (32 : Int32) H locs ls hI (lv_sub hl [2, 3, 1, 0] rfl) ⟨0, Nat.zero_le _, rfl, rfl⟩ X hF
set_option maxHeartbeats 4000000 in
set_option maxRecDepth 100000 in
theorem c_cArrays_fill3 (l : Launch) (g : Gm) (st : CS) (x1 : Int32) : Mv l yJ7_fill_53178 wq_J7_fill_53178 rm_cArrays_fill3 (gD g) vwCl (cty g) (cw g) (cz g) [.ref (gad g 3), .int x1] st (cArrays_fill3 st x1) := by
  intro sz
  refine Met.ofW (cc := cJ7_fill_53178) (maxL := 4) (ret := none) (by decide) rfl ?_
  intro p e s m args below meth c s₁ B hml hv
  obtain ⟨rfl, hsz, hP, hK, hD0, hZ⟩ := hv
  subst hsz
  have hl := lv_entry ([.ref (gad g 3), .int x1]) (n := 4) (Nat.le_of_ble_eq_true rfl)
  rw [lg_entry_eq]
  generalize (lg_sl ([.ref (gad g 3), .int x1]) ++ List.replicate (4 - (lg_sl ([.ref (gad g 3), .int x1])).length) Slot.unset).toArray = ls at hl ⊢
  exact k_cArrays_fill3 g ⟨B.exec, B.bytes, B.returns, hml, findClass_of_methodNamed B.named, atoms_spec (ws := wq_J7_fill_53178) B.pre, B.notSynchronized, hK, fun q h => Or.inr h, hZ, cz_ok g⟩ st x1 _ _ ls ⟨hP, hD0.self, va_S.rf⟩ hl _ rfl
theorem r_cArrays_fill3 (st : CS) (x1 : Int32) : cArrays_fill3 st x1 = fillS 1 st 0 32 x1 := by
  show (cArrays_fill3_b5 (33) st x1 (nI 0) (nI 32)).getD st = _
  rw [u_cArrays_fill3 x1 _ 0 st (Nat.zero_le _) (by decide)]
  rfl
abbrev wq_X6_begin : List Cond := .code yX6_begin cX6_begin 1 none :: wAll
theorem yd_yX6_begin : yX6_begin.cls = RX6 ∧ yX6_begin.cls ≠ "java/lang/invoke/MethodHandle" ∧ yX6_begin.cls ≠ "java/lang/invoke/VarHandle" ∧ (parseMethodDescriptor yX6_begin.desc).map (fun d => d.parameters.length) = some 0 := by decide +kernel
abbrev rm_cRegisters_begin : Room := { frames := 1, cells := 0, slots := 0, locals := 23 }
def cRegisters_begin_b8 (st : CS) : CS := (sA st 1 (upd (gA st 1) (15 : Int32).toNatClampNeg (201326595 : Int32)))
set_option maxHeartbeats 4000000 in
set_option maxRecDepth 100000 in
theorem k_cRegisters_begin_b8 {p : Program} {l : Launch} {e : Env} {s : State} {m : MethodId} {args : Array Value} {below : List Frame} {meth : Method} {c : Code} {A : Nat → Prop} (g : Gm) (C : cX p s m args meth c A cX6_begin none 1 RX6 wq_X6_begin (gD g) vwCl (cty g) (cz g)) (st : CS) (H : Heap) (locs : List Loc) (ls : Array Slot) (hI : cI (gD g) vwCl (cw g) A s st H locs) (hl : lv_has ls 1 [(0, .ref (gad g 2))]) (X : CS) (hF : X = cRegisters_begin_b8 st ) : W p l e rm_cRegisters_begin s m args below meth c H locs 0 0 (MQ below (cQv (gD g) vwCl (cty g) (cw g) A X) args s 0 0 A) (F0 m 8 ls []) := by
  obtain ⟨hx, hb, hr, hml, hown, hts, hlocks, hK, hA, hZ, hzo⟩ := id C
  unfold cRegisters_begin_b8 at hF
  refine lv_aload_n hx hb dX6_begin_8 rfl (lv_at hl 0 rfl) ?_
  refine va_get (D := gD g) (ci := 6) (C := RX6) (T := TX6) (N := 1) (v := .ref (gad g 3)) hx hb hts (fun w h => List.mem_cons_of_mem _ (isX60 w h)) hown hK hI.1 2 rfl rfl 0 (by decide) (hts _ (List.mem_cons_of_mem _ mw52)) (fun _ h9 => h9) rfl dX6_begin_9 ?_
  refine lv_bipush (v := (15 : Int32)) hx hb dX6_begin_12 (by decide) ?_
  refine lv_ldc (v := (201326595 : Int32)) hx hb hown (hts _ (List.mem_cons_of_mem _ mw123)) dX6_begin_14 ?_
  refine va_iast (f := (gA st 1)) hx hb hK hI.1 hI.2.1 hI.2.2 3 1 rfl rfl (by unfold vp_in; decide) dX6_begin_16 (fun H locs hP hD hS => ?_)
  have hI : cI (gD g) vwCl (cw g) A s (sA st 1 (upd (gA st 1) (15 : Int32).toNatClampNeg (201326595 : Int32))) H locs := ⟨hP, hD, hS⟩
  exact cx_vret C hI hF dX6_begin_17
def cRegisters_begin (st : CS) : CS := (cRegisters_begin_b8 (cArrays_fill3 st (0 : Int32)) )
set_option maxHeartbeats 4000000 in
set_option maxRecDepth 100000 in
theorem k_cRegisters_begin {p : Program} {l : Launch} {e : Env} {s : State} {m : MethodId} {args : Array Value} {below : List Frame} {meth : Method} {c : Code} {A : Nat → Prop} (g : Gm) (C : cX p s m args meth c A cX6_begin none 1 RX6 wq_X6_begin (gD g) vwCl (cty g) (cz g)) (st : CS) (H : Heap) (locs : List Loc) (ls : Array Slot) (hI : cI (gD g) vwCl (cw g) A s st H locs) (hl : lv_has ls 1 [(0, .ref (gad g 2))]) (X : CS) (hF : X = cRegisters_begin st) : W p l e rm_cRegisters_begin s m args below meth c H locs 0 0 (MQ below (cQv (gD g) vwCl (cty g) (cw g) A X) args s 0 0 A) (F0 m 0 ls []) := by
  obtain ⟨hx, hb, hr, hml, hown, hts, hlocks, hK, hA, hZ, hzo⟩ := id C
  unfold cRegisters_begin at hF
  refine lv_aload_n hx hb dX6_begin_0 rfl (lv_at hl 0 rfl) ?_
  refine va_get (D := gD g) (ci := 6) (C := RX6) (T := TX6) (N := 1) (v := .ref (gad g 3)) hx hb hts (fun w h => List.mem_cons_of_mem _ (isX60 w h)) hown hK hI.1 2 rfl rfl 0 (by decide) (hts _ (List.mem_cons_of_mem _ mw52)) (fun _ h9 => h9) rfl dX6_begin_1 ?_
  refine lv_iconst (v := (0 : Int32)) hx hb dX6_begin_4 (by decide) ?_
  refine cx_Sv (As := [.ref (gad g 3), .int (0 : Int32)]) (rest := []) C (c_cArrays_fill3 l g st (0 : Int32)) (va_cwS 2 hts (gd_S _ mw124 mw125 mw126 mw127) rfl rfl rfl yd_yJ7_fill_53178 ⟨Nat.le_of_ble_eq_true rfl, Nat.le_of_ble_eq_true rfl⟩) hI rfl hl.1 rfl (Nat.le_of_ble_eq_true rfl) dX6_begin_5 (fun H locs hI => ?_)
  exact k_cRegisters_begin_b8 g C (cArrays_fill3 st (0 : Int32))  H locs ls hI (lv_sub hl [0] rfl) X hF
set_option maxHeartbeats 4000000 in
set_option maxRecDepth 100000 in
theorem c_cRegisters_begin (l : Launch) (g : Gm) (st : CS) : Mv l yX6_begin wq_X6_begin rm_cRegisters_begin (gD g) vwCl (cty g) (cw g) (cz g) [.ref (gad g 2)] st (cRegisters_begin st) := by
  intro sz
  refine Met.ofW (cc := cX6_begin) (maxL := 1) (ret := none) (by decide) rfl ?_
  intro p e s m args below meth c s₁ B hml hv
  obtain ⟨rfl, hsz, hP, hK, hD0, hZ⟩ := hv
  subst hsz
  have hl := lv_entry ([.ref (gad g 2)]) (n := 1) (Nat.le_of_ble_eq_true rfl)
  rw [lg_entry_eq]
  generalize (lg_sl ([.ref (gad g 2)]) ++ List.replicate (1 - (lg_sl ([.ref (gad g 2)])).length) Slot.unset).toArray = ls at hl ⊢
  exact k_cRegisters_begin g ⟨B.exec, B.bytes, B.returns, hml, findClass_of_methodNamed B.named, atoms_spec (ws := wq_X6_begin) B.pre, B.notSynchronized, hK, fun q h => Or.inr h, hZ, cz_ok g⟩ st  _ _ ls ⟨hP, hD0.self, va_S.rf⟩ hl _ rfl
abbrev wq_X6_of : List Cond := .code yX6_of cX6_of 3 (some .int) :: wAll
theorem yd_yX6_of : yX6_of.cls = RX6 ∧ yX6_of.cls ≠ "java/lang/invoke/MethodHandle" ∧ yX6_of.cls ≠ "java/lang/invoke/VarHandle" ∧ (parseMethodDescriptor yX6_of.desc).map (fun d => d.parameters.length) = some 2 := by decide +kernel
abbrev rm_cRegisters_of : Room := { frames := 1, cells := 0, slots := 0, locals := 21 }
def cRegisters_of (st : CS) (x1 : Int32) (x2 : Int32) : Int32 := ((gA st 1) (cRegisters_slot x1 x2).toNatClampNeg)
set_option maxHeartbeats 4000000 in
set_option maxRecDepth 100000 in
theorem k_cRegisters_of {p : Program} {l : Launch} {e : Env} {s : State} {m : MethodId} {args : Array Value} {below : List Frame} {meth : Method} {c : Code} {A : Nat → Prop} (g : Gm) (C : cX p s m args meth c A cX6_of (some .int) 3 RX6 wq_X6_of (gD g) vwCl (cty g) (cz g)) (st : CS) (x1 : Int32) (x2 : Int32) (H : Heap) (locs : List Loc) (ls : Array Slot) (hI : cI (gD g) vwCl (cw g) A s st H locs) (hl : lv_has ls 3 [(0, .ref (gad g 2)), (1, .int x1), (2, .int x2)]) (X : Int32) (hF : X = cRegisters_of st x1 x2) : W p l e rm_cRegisters_of s m args below meth c H locs 0 0 (MQ below (cQi (gD g) vwCl (cty g) (cw g) A st X) args s 0 0 A) (F0 m 0 ls []) := by
  obtain ⟨hx, hb, hr, hml, hown, hts, hlocks, hK, hA, hZ, hzo⟩ := id C
  unfold cRegisters_of at hF
  refine lv_aload_n hx hb dX6_of_0 rfl (lv_at hl 0 rfl) ?_
  refine va_get (D := gD g) (ci := 6) (C := RX6) (T := TX6) (N := 1) (v := .ref (gad g 3)) hx hb hts (fun w h => List.mem_cons_of_mem _ (isX60 w h)) hown hK hI.1 2 rfl rfl 0 (by decide) (hts _ (List.mem_cons_of_mem _ mw52)) (fun _ h9 => h9) rfl dX6_of_1 ?_
  refine lv_iload_n hx hb dX6_of_4 rfl (lv_at hl 1 rfl) ?_
  refine lv_iload_n hx hb dX6_of_5 rfl (lv_at hl 2 rfl) ?_
  refine cx_Si (As := [.int x1, .int x2]) (rest := [.ref (gad g 3)]) C (c_cRegisters_slot l g st x1 x2) (va_cwS 2 hts (gd_S _ mw420 mw421 mw14 mw422) rfl rfl rfl yd_yX6_slot ⟨Nat.le_of_ble_eq_true rfl, Nat.le_of_ble_eq_true rfl⟩) hI rfl hl.1 rfl (Nat.le_of_ble_eq_true rfl) dX6_of_6 (fun H locs hI => ?_)
  refine va_iald (f := (gA st 1)) hx hb hK hI.1 3 1 rfl rfl (by unfold cRegisters_slot; exact vin_and _ 5 rfl (by decide) (by decide)) dX6_of_9 ?_
  exact cx_iret C hI rfl hF dX6_of_10
set_option maxHeartbeats 4000000 in
set_option maxRecDepth 100000 in
theorem c_cRegisters_of (l : Launch) (g : Gm) (st : CS) (x1 : Int32) (x2 : Int32) : Mi l yX6_of wq_X6_of rm_cRegisters_of (gD g) vwCl (cty g) (cw g) (cz g) [.ref (gad g 2), .int x1, .int x2] st st (cRegisters_of st x1 x2) := by
  intro sz
  refine Met.ofW (cc := cX6_of) (maxL := 3) (ret := (some .int)) (by decide) rfl ?_
  intro p e s m args below meth c s₁ B hml hv
  obtain ⟨rfl, hsz, hP, hK, hD0, hZ⟩ := hv
  subst hsz
  have hl := lv_entry ([.ref (gad g 2), .int x1, .int x2]) (n := 3) (Nat.le_of_ble_eq_true rfl)
  rw [lg_entry_eq]
  generalize (lg_sl ([.ref (gad g 2), .int x1, .int x2]) ++ List.replicate (3 - (lg_sl ([.ref (gad g 2), .int x1, .int x2])).length) Slot.unset).toArray = ls at hl ⊢
  exact k_cRegisters_of g ⟨B.exec, B.bytes, B.returns, hml, findClass_of_methodNamed B.named, atoms_spec (ws := wq_X6_of) B.pre, B.notSynchronized, hK, fun q h => Or.inr h, hZ, cz_ok g⟩ st x1 x2 _ _ ls ⟨hP, hD0.self, va_S.rf⟩ hl _ rfl
abbrev wq_X6_become : List Cond := .code yX6_become cX6_become 4 none :: wAll
theorem yd_yX6_become : yX6_become.cls = RX6 ∧ yX6_become.cls ≠ "java/lang/invoke/MethodHandle" ∧ yX6_become.cls ≠ "java/lang/invoke/VarHandle" ∧ (parseMethodDescriptor yX6_become.desc).map (fun d => d.parameters.length) = some 3 := by decide +kernel
abbrev rm_cRegisters_become : Room := { frames := 1, cells := 0, slots := 0, locals := 21 }
def cRegisters_become (st : CS) (x1 : Int32) (x2 : Int32) (x3 : Int32) : CS := (sA st 1 (upd (gA st 1) (cRegisters_slot x1 x2).toNatClampNeg x3))
set_option maxHeartbeats 4000000 in
set_option maxRecDepth 100000 in
theorem k_cRegisters_become {p : Program} {l : Launch} {e : Env} {s : State} {m : MethodId} {args : Array Value} {below : List Frame} {meth : Method} {c : Code} {A : Nat → Prop} (g : Gm) (C : cX p s m args meth c A cX6_become none 4 RX6 wq_X6_become (gD g) vwCl (cty g) (cz g)) (st : CS) (x1 : Int32) (x2 : Int32) (x3 : Int32) (H : Heap) (locs : List Loc) (ls : Array Slot) (hI : cI (gD g) vwCl (cw g) A s st H locs) (hl : lv_has ls 4 [(0, .ref (gad g 2)), (1, .int x1), (2, .int x2), (3, .int x3)]) (X : CS) (hF : X = cRegisters_become st x1 x2 x3) : W p l e rm_cRegisters_become s m args below meth c H locs 0 0 (MQ below (cQv (gD g) vwCl (cty g) (cw g) A X) args s 0 0 A) (F0 m 0 ls []) := by
  obtain ⟨hx, hb, hr, hml, hown, hts, hlocks, hK, hA, hZ, hzo⟩ := id C
  unfold cRegisters_become at hF
  refine lv_aload_n hx hb dX6_become_0 rfl (lv_at hl 0 rfl) ?_
  refine va_get (D := gD g) (ci := 6) (C := RX6) (T := TX6) (N := 1) (v := .ref (gad g 3)) hx hb hts (fun w h => List.mem_cons_of_mem _ (isX60 w h)) hown hK hI.1 2 rfl rfl 0 (by decide) (hts _ (List.mem_cons_of_mem _ mw52)) (fun _ h9 => h9) rfl dX6_become_1 ?_
  refine lv_iload_n hx hb dX6_become_4 rfl (lv_at hl 1 rfl) ?_
  refine lv_iload_n hx hb dX6_become_5 rfl (lv_at hl 2 rfl) ?_
  refine cx_Si (As := [.int x1, .int x2]) (rest := [.ref (gad g 3)]) C (c_cRegisters_slot l g st x1 x2) (va_cwS 2 hts (gd_S _ mw420 mw421 mw14 mw422) rfl rfl rfl yd_yX6_slot ⟨Nat.le_of_ble_eq_true rfl, Nat.le_of_ble_eq_true rfl⟩) hI rfl hl.1 rfl (Nat.le_of_ble_eq_true rfl) dX6_become_6 (fun H locs hI => ?_)
  refine lv_iload_n hx hb dX6_become_9 rfl (lv_at hl 3 rfl) ?_
  refine va_iast (f := (gA st 1)) hx hb hK hI.1 hI.2.1 hI.2.2 3 1 rfl rfl (by unfold cRegisters_slot; exact vin_and _ 5 rfl (by decide) (by decide)) dX6_become_10 (fun H locs hP hD hS => ?_)
  have hI : cI (gD g) vwCl (cw g) A s (sA st 1 (upd (gA st 1) (cRegisters_slot x1 x2).toNatClampNeg x3)) H locs := ⟨hP, hD, hS⟩
  exact cx_vret C hI hF dX6_become_11
set_option maxHeartbeats 4000000 in
set_option maxRecDepth 100000 in
theorem c_cRegisters_become (l : Launch) (g : Gm) (st : CS) (x1 : Int32) (x2 : Int32) (x3 : Int32) : Mv l yX6_become wq_X6_become rm_cRegisters_become (gD g) vwCl (cty g) (cw g) (cz g) [.ref (gad g 2), .int x1, .int x2, .int x3] st (cRegisters_become st x1 x2 x3) := by
  intro sz
  refine Met.ofW (cc := cX6_become) (maxL := 4) (ret := none) (by decide) rfl ?_
  intro p e s m args below meth c s₁ B hml hv
  obtain ⟨rfl, hsz, hP, hK, hD0, hZ⟩ := hv
  subst hsz
  have hl := lv_entry ([.ref (gad g 2), .int x1, .int x2, .int x3]) (n := 4) (Nat.le_of_ble_eq_true rfl)
  rw [lg_entry_eq]
  generalize (lg_sl ([.ref (gad g 2), .int x1, .int x2, .int x3]) ++ List.replicate (4 - (lg_sl ([.ref (gad g 2), .int x1, .int x2, .int x3])).length) Slot.unset).toArray = ls at hl ⊢
  exact k_cRegisters_become g ⟨B.exec, B.bytes, B.returns, hml, findClass_of_methodNamed B.named, atoms_spec (ws := wq_X6_become) B.pre, B.notSynchronized, hK, fun q h => Or.inr h, hZ, cz_ok g⟩ st x1 x2 x3 _ _ ls ⟨hP, hD0.self, va_S.rf⟩ hl _ rfl
abbrev wq_X6_isOneFor : List Cond := .code yX6_isOneFor cX6_isOneFor 4 (some .boolean) :: wAll
theorem yd_yX6_isOneFor : yX6_isOneFor.cls = RX6 ∧ yX6_isOneFor.cls ≠ "java/lang/invoke/MethodHandle" ∧ yX6_isOneFor.cls ≠ "java/lang/invoke/VarHandle" ∧ (parseMethodDescriptor yX6_isOneFor.desc).map (fun d => d.parameters.length) = some 3 := by decide +kernel
abbrev rm_cRegisters_isOneFor : Room := { frames := 1, cells := 0, slots := 0, locals := 21 }
def cRegisters_isOneFor (x1 : Int32) (x2 : Int32) (x3 : Int32) : Int32 := (if ((cRegisters_slot x1 x3) = (cRegisters_slot x2 x3)) then (1 : Int32) else (0 : Int32))
set_option maxHeartbeats 4000000 in
set_option maxRecDepth 100000 in
theorem k_cRegisters_isOneFor {p : Program} {l : Launch} {e : Env} {s : State} {m : MethodId} {args : Array Value} {below : List Frame} {meth : Method} {c : Code} {A : Nat → Prop} (g : Gm) (C : cX p s m args meth c A cX6_isOneFor (some .boolean) 4 RX6 wq_X6_isOneFor (gD g) vwCl (cty g) (cz g)) (st : CS) (x1 : Int32) (x2 : Int32) (x3 : Int32) (H : Heap) (locs : List Loc) (ls : Array Slot) (hI : cI (gD g) vwCl (cw g) A s st H locs) (hl : lv_has ls 4 [(0, .ref (gad g 2)), (1, .int x1), (2, .int x2), (3, .int x3)]) (X : Int32) (hF : X = cRegisters_isOneFor x1 x2 x3) : W p l e rm_cRegisters_isOneFor s m args below meth c H locs 0 0 (MQ below (cQi (gD g) vwCl (cty g) (cw g) A st X) args s 0 0 A) (F0 m 0 ls []) := by
  obtain ⟨hx, hb, hr, hml, hown, hts, hlocks, hK, hA, hZ, hzo⟩ := id C
  unfold cRegisters_isOneFor at hF
  refine lv_iload_n hx hb dX6_isOneFor_0 rfl (lv_at hl 1 rfl) ?_
  refine lv_iload_n hx hb dX6_isOneFor_1 rfl (lv_at hl 3 rfl) ?_
  refine cx_Si (As := [.int x1, .int x3]) (rest := []) C (c_cRegisters_slot l g st x1 x3) (va_cwS 2 hts (gd_S _ mw420 mw421 mw14 mw422) rfl rfl rfl yd_yX6_slot ⟨Nat.le_of_ble_eq_true rfl, Nat.le_of_ble_eq_true rfl⟩) hI rfl hl.1 rfl (Nat.le_of_ble_eq_true rfl) dX6_isOneFor_2 (fun H locs hI => ?_)
  refine lv_iload_n hx hb dX6_isOneFor_5 rfl (lv_at hl 2 rfl) ?_
  refine lv_iload_n hx hb dX6_isOneFor_6 rfl (lv_at hl 3 rfl) ?_
  refine cx_Si (As := [.int x2, .int x3]) (rest := [.int (cRegisters_slot x1 x3)]) C (c_cRegisters_slot l g st x2 x3) (va_cwS 2 hts (gd_S _ mw420 mw421 mw14 mw422) rfl rfl rfl yd_yX6_slot ⟨Nat.le_of_ble_eq_true rfl, Nat.le_of_ble_eq_true rfl⟩) hI rfl hl.1 rfl (Nat.le_of_ble_eq_true rfl) dX6_isOneFor_7 (fun H locs hI => ?_)
  refine lv_icmp_ne (tgt := 17) hx hb dX6_isOneFor_10 (by decide) (fun c_10 => ?_) (fun c_10 => ?_)
  · have hF := hF.trans (if_neg c_10)
    refine lv_iconst (v := (0 : Int32)) hx hb dX6_isOneFor_17 (by decide) ?_
    exact cx_zret C hI rfl hF rfl dX6_isOneFor_18
  · have hF := hF.trans (if_pos c_10)
    refine lv_iconst (v := (1 : Int32)) hx hb dX6_isOneFor_13 (by decide) ?_
    refine lv_goto (tgt := 18) hx hb dX6_isOneFor_14 (by decide) ?_
    exact cx_zret C hI rfl hF rfl dX6_isOneFor_18
set_option maxHeartbeats 4000000 in
set_option maxRecDepth 100000 in
theorem c_cRegisters_isOneFor (l : Launch) (g : Gm) (st : CS) (x1 : Int32) (x2 : Int32) (x3 : Int32) : Mi l yX6_isOneFor wq_X6_isOneFor rm_cRegisters_isOneFor (gD g) vwCl (cty g) (cw g) (cz g) [.ref (gad g 2), .int x1, .int x2, .int x3] st st (cRegisters_isOneFor x1 x2 x3) := by
  intro sz
  refine Met.ofW (cc := cX6_isOneFor) (maxL := 4) (ret := (some .boolean)) (by decide) rfl ?_
  intro p e s m args below meth c s₁ B hml hv
  obtain ⟨rfl, hsz, hP, hK, hD0, hZ⟩ := hv
  subst hsz
  have hl := lv_entry ([.ref (gad g 2), .int x1, .int x2, .int x3]) (n := 4) (Nat.le_of_ble_eq_true rfl)
  rw [lg_entry_eq]
  generalize (lg_sl ([.ref (gad g 2), .int x1, .int x2, .int x3]) ++ List.replicate (4 - (lg_sl ([.ref (gad g 2), .int x1, .int x2, .int x3])).length) Slot.unset).toArray = ls at hl ⊢
  exact k_cRegisters_isOneFor g ⟨B.exec, B.bytes, B.returns, hml, findClass_of_methodNamed B.named, atoms_spec (ws := wq_X6_isOneFor) B.pre, B.notSynchronized, hK, fun q h => Or.inr h, hZ, cz_ok g⟩ st x1 x2 x3 _ _ ls ⟨hP, hD0.self, va_S.rf⟩ hl _ rfl
abbrev wq_X6_mode : List Cond := .code yX6_mode cX6_mode 1 (some .int) :: wAll
theorem yd_yX6_mode : yX6_mode.cls = RX6 ∧ yX6_mode.cls ≠ "java/lang/invoke/MethodHandle" ∧ yX6_mode.cls ≠ "java/lang/invoke/VarHandle" ∧ (parseMethodDescriptor yX6_mode.desc).map (fun d => d.parameters.length) = some 0 := by decide +kernel
abbrev rm_cRegisters_mode : Room := { frames := 0, cells := 0, slots := 0, locals := 0 }
def cRegisters_mode (st : CS) : Int32 := (((gA st 1) (15 : Int32).toNatClampNeg) &&& (3 : Int32))
set_option maxHeartbeats 4000000 in
set_option maxRecDepth 100000 in
theorem k_cRegisters_mode {p : Program} {l : Launch} {e : Env} {s : State} {m : MethodId} {args : Array Value} {below : List Frame} {meth : Method} {c : Code} {A : Nat → Prop} (g : Gm) (C : cX p s m args meth c A cX6_mode (some .int) 1 RX6 wq_X6_mode (gD g) vwCl (cty g) (cz g)) (st : CS) (H : Heap) (locs : List Loc) (ls : Array Slot) (hI : cI (gD g) vwCl (cw g) A s st H locs) (hl : lv_has ls 1 [(0, .ref (gad g 2))]) (X : Int32) (hF : X = cRegisters_mode st) : W p l e rm_cRegisters_mode s m args below meth c H locs 0 0 (MQ below (cQi (gD g) vwCl (cty g) (cw g) A st X) args s 0 0 A) (F0 m 0 ls []) := by
  obtain ⟨hx, hb, hr, hml, hown, hts, hlocks, hK, hA, hZ, hzo⟩ := id C
  unfold cRegisters_mode at hF
  refine lv_aload_n hx hb dX6_mode_0 rfl (lv_at hl 0 rfl) ?_
  refine va_get (D := gD g) (ci := 6) (C := RX6) (T := TX6) (N := 1) (v := .ref (gad g 3)) hx hb hts (fun w h => List.mem_cons_of_mem _ (isX60 w h)) hown hK hI.1 2 rfl rfl 0 (by decide) (hts _ (List.mem_cons_of_mem _ mw52)) (fun _ h9 => h9) rfl dX6_mode_1 ?_
  refine lv_bipush (v := (15 : Int32)) hx hb dX6_mode_4 (by decide) ?_
  refine va_iald (f := (gA st 1)) hx hb hK hI.1 3 1 rfl rfl (by unfold vp_in; decide) dX6_mode_6 ?_
  refine lv_iconst (v := (3 : Int32)) hx hb dX6_mode_7 (by decide) ?_
  refine lv_iand hx hb dX6_mode_8 ?_
  exact cx_iret C hI rfl hF dX6_mode_9
set_option maxHeartbeats 4000000 in
set_option maxRecDepth 100000 in
theorem c_cRegisters_mode (l : Launch) (g : Gm) (st : CS) : Mi l yX6_mode wq_X6_mode rm_cRegisters_mode (gD g) vwCl (cty g) (cw g) (cz g) [.ref (gad g 2)] st st (cRegisters_mode st) := by
  intro sz
  refine Met.ofW (cc := cX6_mode) (maxL := 1) (ret := (some .int)) (by decide) rfl ?_
  intro p e s m args below meth c s₁ B hml hv
  obtain ⟨rfl, hsz, hP, hK, hD0, hZ⟩ := hv
  subst hsz
  have hl := lv_entry ([.ref (gad g 2)]) (n := 1) (Nat.le_of_ble_eq_true rfl)
  rw [lg_entry_eq]
  generalize (lg_sl ([.ref (gad g 2)]) ++ List.replicate (1 - (lg_sl ([.ref (gad g 2)])).length) Slot.unset).toArray = ls at hl ⊢
  exact k_cRegisters_mode g ⟨B.exec, B.bytes, B.returns, hml, findClass_of_methodNamed B.named, atoms_spec (ws := wq_X6_mode) B.pre, B.notSynchronized, hK, fun q h => Or.inr h, hZ, cz_ok g⟩ st  _ _ ls ⟨hP, hD0.self, va_S.rf⟩ hl _ rfl
abbrev wq_X6_pc : List Cond := .code yX6_pc cX6_pc 1 (some .int) :: wAll
theorem yd_yX6_pc : yX6_pc.cls = RX6 ∧ yX6_pc.cls ≠ "java/lang/invoke/MethodHandle" ∧ yX6_pc.cls ≠ "java/lang/invoke/VarHandle" ∧ (parseMethodDescriptor yX6_pc.desc).map (fun d => d.parameters.length) = some 0 := by decide +kernel
abbrev rm_cRegisters_pc : Room := { frames := 0, cells := 0, slots := 0, locals := 0 }
def cRegisters_pc (st : CS) : Int32 := (((gA st 1) (15 : Int32).toNatClampNeg) &&& (67108860 : Int32))
set_option maxHeartbeats 4000000 in
set_option maxRecDepth 100000 in
theorem k_cRegisters_pc {p : Program} {l : Launch} {e : Env} {s : State} {m : MethodId} {args : Array Value} {below : List Frame} {meth : Method} {c : Code} {A : Nat → Prop} (g : Gm) (C : cX p s m args meth c A cX6_pc (some .int) 1 RX6 wq_X6_pc (gD g) vwCl (cty g) (cz g)) (st : CS) (H : Heap) (locs : List Loc) (ls : Array Slot) (hI : cI (gD g) vwCl (cw g) A s st H locs) (hl : lv_has ls 1 [(0, .ref (gad g 2))]) (X : Int32) (hF : X = cRegisters_pc st) : W p l e rm_cRegisters_pc s m args below meth c H locs 0 0 (MQ below (cQi (gD g) vwCl (cty g) (cw g) A st X) args s 0 0 A) (F0 m 0 ls []) := by
  obtain ⟨hx, hb, hr, hml, hown, hts, hlocks, hK, hA, hZ, hzo⟩ := id C
  unfold cRegisters_pc at hF
  refine lv_aload_n hx hb dX6_pc_0 rfl (lv_at hl 0 rfl) ?_
  refine va_get (D := gD g) (ci := 6) (C := RX6) (T := TX6) (N := 1) (v := .ref (gad g 3)) hx hb hts (fun w h => List.mem_cons_of_mem _ (isX60 w h)) hown hK hI.1 2 rfl rfl 0 (by decide) (hts _ (List.mem_cons_of_mem _ mw52)) (fun _ h9 => h9) rfl dX6_pc_1 ?_
  refine lv_bipush (v := (15 : Int32)) hx hb dX6_pc_4 (by decide) ?_
  refine va_iald (f := (gA st 1)) hx hb hK hI.1 3 1 rfl rfl (by unfold vp_in; decide) dX6_pc_6 ?_
  refine lv_ldc (v := (67108860 : Int32)) hx hb hown (hts _ (List.mem_cons_of_mem _ mw316)) dX6_pc_7 ?_
  refine lv_iand hx hb dX6_pc_9 ?_
  exact cx_iret C hI rfl hF dX6_pc_10
set_option maxHeartbeats 4000000 in
set_option maxRecDepth 100000 in
theorem c_cRegisters_pc (l : Launch) (g : Gm) (st : CS) : Mi l yX6_pc wq_X6_pc rm_cRegisters_pc (gD g) vwCl (cty g) (cw g) (cz g) [.ref (gad g 2)] st st (cRegisters_pc st) := by
  intro sz
  refine Met.ofW (cc := cX6_pc) (maxL := 1) (ret := (some .int)) (by decide) rfl ?_
  intro p e s m args below meth c s₁ B hml hv
  obtain ⟨rfl, hsz, hP, hK, hD0, hZ⟩ := hv
  subst hsz
  have hl := lv_entry ([.ref (gad g 2)]) (n := 1) (Nat.le_of_ble_eq_true rfl)
  rw [lg_entry_eq]
  generalize (lg_sl ([.ref (gad g 2)]) ++ List.replicate (1 - (lg_sl ([.ref (gad g 2)])).length) Slot.unset).toArray = ls at hl ⊢
  exact k_cRegisters_pc g ⟨B.exec, B.bytes, B.returns, hml, findClass_of_methodNamed B.named, atoms_spec (ws := wq_X6_pc) B.pre, B.notSynchronized, hK, fun q h => Or.inr h, hZ, cz_ok g⟩ st  _ _ ls ⟨hP, hD0.self, va_S.rf⟩ hl _ rfl
abbrev wq_X6_signs : List Cond := .code yX6_signs cX6_signs 1 (some .int) :: wAll
theorem yd_yX6_signs : yX6_signs.cls = RX6 ∧ yX6_signs.cls ≠ "java/lang/invoke/MethodHandle" ∧ yX6_signs.cls ≠ "java/lang/invoke/VarHandle" ∧ (parseMethodDescriptor yX6_signs.desc).map (fun d => d.parameters.length) = some 0 := by decide +kernel
abbrev rm_cRegisters_signs : Room := { frames := 0, cells := 0, slots := 0, locals := 0 }
def cRegisters_signs (st : CS) : Int32 := (((gA st 1) (15 : Int32).toNatClampNeg) &&& (-67108861 : Int32))
set_option maxHeartbeats 4000000 in
set_option maxRecDepth 100000 in
theorem k_cRegisters_signs {p : Program} {l : Launch} {e : Env} {s : State} {m : MethodId} {args : Array Value} {below : List Frame} {meth : Method} {c : Code} {A : Nat → Prop} (g : Gm) (C : cX p s m args meth c A cX6_signs (some .int) 1 RX6 wq_X6_signs (gD g) vwCl (cty g) (cz g)) (st : CS) (H : Heap) (locs : List Loc) (ls : Array Slot) (hI : cI (gD g) vwCl (cw g) A s st H locs) (hl : lv_has ls 1 [(0, .ref (gad g 2))]) (X : Int32) (hF : X = cRegisters_signs st) : W p l e rm_cRegisters_signs s m args below meth c H locs 0 0 (MQ below (cQi (gD g) vwCl (cty g) (cw g) A st X) args s 0 0 A) (F0 m 0 ls []) := by
  obtain ⟨hx, hb, hr, hml, hown, hts, hlocks, hK, hA, hZ, hzo⟩ := id C
  unfold cRegisters_signs at hF
  refine lv_aload_n hx hb dX6_signs_0 rfl (lv_at hl 0 rfl) ?_
  refine va_get (D := gD g) (ci := 6) (C := RX6) (T := TX6) (N := 1) (v := .ref (gad g 3)) hx hb hts (fun w h => List.mem_cons_of_mem _ (isX60 w h)) hown hK hI.1 2 rfl rfl 0 (by decide) (hts _ (List.mem_cons_of_mem _ mw52)) (fun _ h9 => h9) rfl dX6_signs_1 ?_
  refine lv_bipush (v := (15 : Int32)) hx hb dX6_signs_4 (by decide) ?_
  refine va_iald (f := (gA st 1)) hx hb hK hI.1 3 1 rfl rfl (by unfold vp_in; decide) dX6_signs_6 ?_
  refine lv_ldc (v := (-67108861 : Int32)) hx hb hown (hts _ (List.mem_cons_of_mem _ mw369)) dX6_signs_7 ?_
  refine lv_iand hx hb dX6_signs_9 ?_
  exact cx_iret C hI rfl hF dX6_signs_10
set_option maxHeartbeats 4000000 in
set_option maxRecDepth 100000 in
theorem c_cRegisters_signs (l : Launch) (g : Gm) (st : CS) : Mi l yX6_signs wq_X6_signs rm_cRegisters_signs (gD g) vwCl (cty g) (cw g) (cz g) [.ref (gad g 2)] st st (cRegisters_signs st) := by
  intro sz
  refine Met.ofW (cc := cX6_signs) (maxL := 1) (ret := (some .int)) (by decide) rfl ?_
  intro p e s m args below meth c s₁ B hml hv
  obtain ⟨rfl, hsz, hP, hK, hD0, hZ⟩ := hv
  subst hsz
  have hl := lv_entry ([.ref (gad g 2)]) (n := 1) (Nat.le_of_ble_eq_true rfl)
  rw [lg_entry_eq]
  generalize (lg_sl ([.ref (gad g 2)]) ++ List.replicate (1 - (lg_sl ([.ref (gad g 2)])).length) Slot.unset).toArray = ls at hl ⊢
  exact k_cRegisters_signs g ⟨B.exec, B.bytes, B.returns, hml, findClass_of_methodNamed B.named, atoms_spec (ws := wq_X6_signs) B.pre, B.notSynchronized, hK, fun q h => Or.inr h, hZ, cz_ok g⟩ st  _ _ ls ⟨hP, hD0.self, va_S.rf⟩ hl _ rfl
abbrev wq_X6_has : List Cond := .code yX6_has cX6_has 2 (some .boolean) :: wAll
theorem yd_yX6_has : yX6_has.cls = RX6 ∧ yX6_has.cls ≠ "java/lang/invoke/MethodHandle" ∧ yX6_has.cls ≠ "java/lang/invoke/VarHandle" ∧ (parseMethodDescriptor yX6_has.desc).map (fun d => d.parameters.length) = some 1 := by decide +kernel
abbrev rm_cRegisters_has : Room := { frames := 0, cells := 0, slots := 0, locals := 0 }
def cRegisters_has (st : CS) (x1 : Int32) : Int32 := (if ((((gA st 1) (15 : Int32).toNatClampNeg) &&& x1) = 0) then (0 : Int32) else (1 : Int32))
set_option maxHeartbeats 4000000 in
set_option maxRecDepth 100000 in
theorem k_cRegisters_has {p : Program} {l : Launch} {e : Env} {s : State} {m : MethodId} {args : Array Value} {below : List Frame} {meth : Method} {c : Code} {A : Nat → Prop} (g : Gm) (C : cX p s m args meth c A cX6_has (some .boolean) 2 RX6 wq_X6_has (gD g) vwCl (cty g) (cz g)) (st : CS) (x1 : Int32) (H : Heap) (locs : List Loc) (ls : Array Slot) (hI : cI (gD g) vwCl (cw g) A s st H locs) (hl : lv_has ls 2 [(0, .ref (gad g 2)), (1, .int x1)]) (X : Int32) (hF : X = cRegisters_has st x1) : W p l e rm_cRegisters_has s m args below meth c H locs 0 0 (MQ below (cQi (gD g) vwCl (cty g) (cw g) A st X) args s 0 0 A) (F0 m 0 ls []) := by
  obtain ⟨hx, hb, hr, hml, hown, hts, hlocks, hK, hA, hZ, hzo⟩ := id C
  unfold cRegisters_has at hF
  refine lv_aload_n hx hb dX6_has_0 rfl (lv_at hl 0 rfl) ?_
  refine va_get (D := gD g) (ci := 6) (C := RX6) (T := TX6) (N := 1) (v := .ref (gad g 3)) hx hb hts (fun w h => List.mem_cons_of_mem _ (isX60 w h)) hown hK hI.1 2 rfl rfl 0 (by decide) (hts _ (List.mem_cons_of_mem _ mw52)) (fun _ h9 => h9) rfl dX6_has_1 ?_
  refine lv_bipush (v := (15 : Int32)) hx hb dX6_has_4 (by decide) ?_
  refine va_iald (f := (gA st 1)) hx hb hK hI.1 3 1 rfl rfl (by unfold vp_in; decide) dX6_has_6 ?_
  refine lv_iload_n hx hb dX6_has_7 rfl (lv_at hl 1 rfl) ?_
  refine lv_iand hx hb dX6_has_8 ?_
  refine lv_if_eq (tgt := 16) hx hb dX6_has_9 (by decide) (fun c_9 => ?_) (fun c_9 => ?_)
  · have hF := hF.trans (if_pos c_9)
    refine lv_iconst (v := (0 : Int32)) hx hb dX6_has_16 (by decide) ?_
    exact cx_zret C hI rfl hF rfl dX6_has_17
  · have hF := hF.trans (if_neg c_9)
    refine lv_iconst (v := (1 : Int32)) hx hb dX6_has_12 (by decide) ?_
    refine lv_goto (tgt := 17) hx hb dX6_has_13 (by decide) ?_
    exact cx_zret C hI rfl hF rfl dX6_has_17
set_option maxHeartbeats 4000000 in
set_option maxRecDepth 100000 in
theorem c_cRegisters_has (l : Launch) (g : Gm) (st : CS) (x1 : Int32) : Mi l yX6_has wq_X6_has rm_cRegisters_has (gD g) vwCl (cty g) (cw g) (cz g) [.ref (gad g 2), .int x1] st st (cRegisters_has st x1) := by
  intro sz
  refine Met.ofW (cc := cX6_has) (maxL := 2) (ret := (some .boolean)) (by decide) rfl ?_
  intro p e s m args below meth c s₁ B hml hv
  obtain ⟨rfl, hsz, hP, hK, hD0, hZ⟩ := hv
  subst hsz
  have hl := lv_entry ([.ref (gad g 2), .int x1]) (n := 2) (Nat.le_of_ble_eq_true rfl)
  rw [lg_entry_eq]
  generalize (lg_sl ([.ref (gad g 2), .int x1]) ++ List.replicate (2 - (lg_sl ([.ref (gad g 2), .int x1])).length) Slot.unset).toArray = ls at hl ⊢
  exact k_cRegisters_has g ⟨B.exec, B.bytes, B.returns, hml, findClass_of_methodNamed B.named, atoms_spec (ws := wq_X6_has) B.pre, B.notSynchronized, hK, fun q h => Or.inr h, hZ, cz_ok g⟩ st x1 _ _ ls ⟨hP, hD0.self, va_S.rf⟩ hl _ rfl
abbrev wq_X6_carry : List Cond := .code yX6_carry cX6_carry 1 (some .int) :: wAll
theorem yd_yX6_carry : yX6_carry.cls = RX6 ∧ yX6_carry.cls ≠ "java/lang/invoke/MethodHandle" ∧ yX6_carry.cls ≠ "java/lang/invoke/VarHandle" ∧ (parseMethodDescriptor yX6_carry.desc).map (fun d => d.parameters.length) = some 0 := by decide +kernel
abbrev rm_cRegisters_carry : Room := { frames := 0, cells := 0, slots := 0, locals := 0 }
def cRegisters_carry (st : CS) : Int32 := ((ushr ((gA st 1) (15 : Int32).toNatClampNeg) (29 : Int32)) &&& (1 : Int32))
set_option maxHeartbeats 4000000 in
set_option maxRecDepth 100000 in
theorem k_cRegisters_carry {p : Program} {l : Launch} {e : Env} {s : State} {m : MethodId} {args : Array Value} {below : List Frame} {meth : Method} {c : Code} {A : Nat → Prop} (g : Gm) (C : cX p s m args meth c A cX6_carry (some .int) 1 RX6 wq_X6_carry (gD g) vwCl (cty g) (cz g)) (st : CS) (H : Heap) (locs : List Loc) (ls : Array Slot) (hI : cI (gD g) vwCl (cw g) A s st H locs) (hl : lv_has ls 1 [(0, .ref (gad g 2))]) (X : Int32) (hF : X = cRegisters_carry st) : W p l e rm_cRegisters_carry s m args below meth c H locs 0 0 (MQ below (cQi (gD g) vwCl (cty g) (cw g) A st X) args s 0 0 A) (F0 m 0 ls []) := by
  obtain ⟨hx, hb, hr, hml, hown, hts, hlocks, hK, hA, hZ, hzo⟩ := id C
  unfold cRegisters_carry at hF
  refine lv_aload_n hx hb dX6_carry_0 rfl (lv_at hl 0 rfl) ?_
  refine va_get (D := gD g) (ci := 6) (C := RX6) (T := TX6) (N := 1) (v := .ref (gad g 3)) hx hb hts (fun w h => List.mem_cons_of_mem _ (isX60 w h)) hown hK hI.1 2 rfl rfl 0 (by decide) (hts _ (List.mem_cons_of_mem _ mw52)) (fun _ h9 => h9) rfl dX6_carry_1 ?_
  refine lv_bipush (v := (15 : Int32)) hx hb dX6_carry_4 (by decide) ?_
  refine va_iald (f := (gA st 1)) hx hb hK hI.1 3 1 rfl rfl (by unfold vp_in; decide) dX6_carry_6 ?_
  refine lv_bipush (v := (29 : Int32)) hx hb dX6_carry_7 (by decide) ?_
  refine lv_iushr (v := (ushr ((gA st 1) (15 : Int32).toNatClampNeg) (29 : Int32))) hx hb dX6_carry_9 rfl ?_
  refine lv_iconst (v := (1 : Int32)) hx hb dX6_carry_10 (by decide) ?_
  refine lv_iand hx hb dX6_carry_11 ?_
  exact cx_iret C hI rfl hF dX6_carry_12
set_option maxHeartbeats 4000000 in
set_option maxRecDepth 100000 in
theorem c_cRegisters_carry (l : Launch) (g : Gm) (st : CS) : Mi l yX6_carry wq_X6_carry rm_cRegisters_carry (gD g) vwCl (cty g) (cw g) (cz g) [.ref (gad g 2)] st st (cRegisters_carry st) := by
  intro sz
  refine Met.ofW (cc := cX6_carry) (maxL := 1) (ret := (some .int)) (by decide) rfl ?_
  intro p e s m args below meth c s₁ B hml hv
  obtain ⟨rfl, hsz, hP, hK, hD0, hZ⟩ := hv
  subst hsz
  have hl := lv_entry ([.ref (gad g 2)]) (n := 1) (Nat.le_of_ble_eq_true rfl)
  rw [lg_entry_eq]
  generalize (lg_sl ([.ref (gad g 2)]) ++ List.replicate (1 - (lg_sl ([.ref (gad g 2)])).length) Slot.unset).toArray = ls at hl ⊢
  exact k_cRegisters_carry g ⟨B.exec, B.bytes, B.returns, hml, findClass_of_methodNamed B.named, atoms_spec (ws := wq_X6_carry) B.pre, B.notSynchronized, hK, fun q h => Or.inr h, hZ, cz_ok g⟩ st  _ _ ls ⟨hP, hD0.self, va_S.rf⟩ hl _ rfl
abbrev wq_X6_goTo : List Cond := .code yX6_goTo cX6_goTo 2 none :: wAll
theorem yd_yX6_goTo : yX6_goTo.cls = RX6 ∧ yX6_goTo.cls ≠ "java/lang/invoke/MethodHandle" ∧ yX6_goTo.cls ≠ "java/lang/invoke/VarHandle" ∧ (parseMethodDescriptor yX6_goTo.desc).map (fun d => d.parameters.length) = some 1 := by decide +kernel
abbrev rm_cRegisters_goTo : Room := { frames := 1, cells := 0, slots := 0, locals := 20 }
def cRegisters_goTo (st : CS) (x1 : Int32) : CS := (sA st 1 (upd (gA st 1) (15 : Int32).toNatClampNeg ((cRegisters_signs st) ||| (x1 &&& (67108860 : Int32)))))
set_option maxHeartbeats 4000000 in
set_option maxRecDepth 100000 in
theorem k_cRegisters_goTo {p : Program} {l : Launch} {e : Env} {s : State} {m : MethodId} {args : Array Value} {below : List Frame} {meth : Method} {c : Code} {A : Nat → Prop} (g : Gm) (C : cX p s m args meth c A cX6_goTo none 2 RX6 wq_X6_goTo (gD g) vwCl (cty g) (cz g)) (st : CS) (x1 : Int32) (H : Heap) (locs : List Loc) (ls : Array Slot) (hI : cI (gD g) vwCl (cw g) A s st H locs) (hl : lv_has ls 2 [(0, .ref (gad g 2)), (1, .int x1)]) (X : CS) (hF : X = cRegisters_goTo st x1) : W p l e rm_cRegisters_goTo s m args below meth c H locs 0 0 (MQ below (cQv (gD g) vwCl (cty g) (cw g) A X) args s 0 0 A) (F0 m 0 ls []) := by
  obtain ⟨hx, hb, hr, hml, hown, hts, hlocks, hK, hA, hZ, hzo⟩ := id C
  unfold cRegisters_goTo at hF
  refine lv_aload_n hx hb dX6_goTo_0 rfl (lv_at hl 0 rfl) ?_
  refine va_get (D := gD g) (ci := 6) (C := RX6) (T := TX6) (N := 1) (v := .ref (gad g 3)) hx hb hts (fun w h => List.mem_cons_of_mem _ (isX60 w h)) hown hK hI.1 2 rfl rfl 0 (by decide) (hts _ (List.mem_cons_of_mem _ mw52)) (fun _ h9 => h9) rfl dX6_goTo_1 ?_
  refine lv_bipush (v := (15 : Int32)) hx hb dX6_goTo_4 (by decide) ?_
  refine lv_aload_n hx hb dX6_goTo_6 rfl (lv_at hl 0 rfl) ?_
  refine cx_Vi (As := []) (rest := [.int (15 : Int32), .ref (gad g 3)]) C (c_cRegisters_signs l g st ) (cwV 0 hts (gd_V _ mw365 mw366 mw367 mw14 mw368) rfl rfl rfl yd_yX6_signs ⟨Nat.le_of_ble_eq_true rfl, Nat.le_of_ble_eq_true rfl⟩) (va_recv hK hI.1 (ci := 6) (q0 := 2) rfl rfl) hI rfl hl.1 rfl (Nat.le_of_ble_eq_true rfl) dX6_goTo_7 (fun H locs hI => ?_)
  refine lv_iload_n hx hb dX6_goTo_10 rfl (lv_at hl 1 rfl) ?_
  refine lv_ldc (v := (67108860 : Int32)) hx hb hown (hts _ (List.mem_cons_of_mem _ mw316)) dX6_goTo_11 ?_
  refine lv_iand hx hb dX6_goTo_13 ?_
  refine lv_ior hx hb dX6_goTo_14 ?_
  refine va_iast (f := (gA st 1)) hx hb hK hI.1 hI.2.1 hI.2.2 3 1 rfl rfl (by unfold vp_in; decide) dX6_goTo_15 (fun H locs hP hD hS => ?_)
  have hI : cI (gD g) vwCl (cw g) A s (sA st 1 (upd (gA st 1) (15 : Int32).toNatClampNeg ((cRegisters_signs st) ||| (x1 &&& (67108860 : Int32))))) H locs := ⟨hP, hD, hS⟩
  exact cx_vret C hI hF dX6_goTo_16
set_option maxHeartbeats 4000000 in
set_option maxRecDepth 100000 in
theorem c_cRegisters_goTo (l : Launch) (g : Gm) (st : CS) (x1 : Int32) : Mv l yX6_goTo wq_X6_goTo rm_cRegisters_goTo (gD g) vwCl (cty g) (cw g) (cz g) [.ref (gad g 2), .int x1] st (cRegisters_goTo st x1) := by
  intro sz
  refine Met.ofW (cc := cX6_goTo) (maxL := 2) (ret := none) (by decide) rfl ?_
  intro p e s m args below meth c s₁ B hml hv
  obtain ⟨rfl, hsz, hP, hK, hD0, hZ⟩ := hv
  subst hsz
  have hl := lv_entry ([.ref (gad g 2), .int x1]) (n := 2) (Nat.le_of_ble_eq_true rfl)
  rw [lg_entry_eq]
  generalize (lg_sl ([.ref (gad g 2), .int x1]) ++ List.replicate (2 - (lg_sl ([.ref (gad g 2), .int x1])).length) Slot.unset).toArray = ls at hl ⊢
  exact k_cRegisters_goTo g ⟨B.exec, B.bytes, B.returns, hml, findClass_of_methodNamed B.named, atoms_spec (ws := wq_X6_goTo) B.pre, B.notSynchronized, hK, fun q h => Or.inr h, hZ, cz_ok g⟩ st x1 _ _ ls ⟨hP, hD0.self, va_S.rf⟩ hl _ rfl
abbrev wq_X6_change : List Cond := .code yX6_change cX6_change 3 none :: wAll
theorem yd_yX6_change : yX6_change.cls = RX6 ∧ yX6_change.cls ≠ "java/lang/invoke/MethodHandle" ∧ yX6_change.cls ≠ "java/lang/invoke/VarHandle" ∧ (parseMethodDescriptor yX6_change.desc).map (fun d => d.parameters.length) = some 2 := by decide +kernel
abbrev rm_cRegisters_change : Room := { frames := 0, cells := 0, slots := 0, locals := 0 }
def cRegisters_change (st : CS) (x1 : Int32) (x2 : Int32) : CS := (sA st 1 (upd (gA st 1) (15 : Int32).toNatClampNeg ((((gA st 1) (15 : Int32).toNatClampNeg) &&& (x1 ^^^ (-1 : Int32))) ||| (x2 &&& x1))))
set_option maxHeartbeats 4000000 in
set_option maxRecDepth 100000 in
theorem k_cRegisters_change {p : Program} {l : Launch} {e : Env} {s : State} {m : MethodId} {args : Array Value} {below : List Frame} {meth : Method} {c : Code} {A : Nat → Prop} (g : Gm) (C : cX p s m args meth c A cX6_change none 3 RX6 wq_X6_change (gD g) vwCl (cty g) (cz g)) (st : CS) (x1 : Int32) (x2 : Int32) (H : Heap) (locs : List Loc) (ls : Array Slot) (hI : cI (gD g) vwCl (cw g) A s st H locs) (hl : lv_has ls 3 [(0, .ref (gad g 2)), (1, .int x1), (2, .int x2)]) (X : CS) (hF : X = cRegisters_change st x1 x2) : W p l e rm_cRegisters_change s m args below meth c H locs 0 0 (MQ below (cQv (gD g) vwCl (cty g) (cw g) A X) args s 0 0 A) (F0 m 0 ls []) := by
  obtain ⟨hx, hb, hr, hml, hown, hts, hlocks, hK, hA, hZ, hzo⟩ := id C
  unfold cRegisters_change at hF
  refine lv_aload_n hx hb dX6_change_0 rfl (lv_at hl 0 rfl) ?_
  refine va_get (D := gD g) (ci := 6) (C := RX6) (T := TX6) (N := 1) (v := .ref (gad g 3)) hx hb hts (fun w h => List.mem_cons_of_mem _ (isX60 w h)) hown hK hI.1 2 rfl rfl 0 (by decide) (hts _ (List.mem_cons_of_mem _ mw52)) (fun _ h9 => h9) rfl dX6_change_1 ?_
  refine lv_bipush (v := (15 : Int32)) hx hb dX6_change_4 (by decide) ?_
  refine lv_aload_n hx hb dX6_change_6 rfl (lv_at hl 0 rfl) ?_
  refine va_get (D := gD g) (ci := 6) (C := RX6) (T := TX6) (N := 1) (v := .ref (gad g 3)) hx hb hts (fun w h => List.mem_cons_of_mem _ (isX60 w h)) hown hK hI.1 2 rfl rfl 0 (by decide) (hts _ (List.mem_cons_of_mem _ mw52)) (fun _ h9 => h9) rfl dX6_change_7 ?_
  refine lv_bipush (v := (15 : Int32)) hx hb dX6_change_10 (by decide) ?_
  refine va_iald (f := (gA st 1)) hx hb hK hI.1 3 1 rfl rfl (by unfold vp_in; decide) dX6_change_12 ?_
  refine lv_iload_n hx hb dX6_change_13 rfl (lv_at hl 1 rfl) ?_
  refine lv_iconst (v := (-1 : Int32)) hx hb dX6_change_14 (by decide) ?_
  refine lv_ixor hx hb dX6_change_15 ?_
  refine lv_iand hx hb dX6_change_16 ?_
  refine lv_iload_n hx hb dX6_change_17 rfl (lv_at hl 2 rfl) ?_
  refine lv_iload_n hx hb dX6_change_18 rfl (lv_at hl 1 rfl) ?_
  refine lv_iand hx hb dX6_change_19 ?_
  refine lv_ior hx hb dX6_change_20 ?_
  refine va_iast (f := (gA st 1)) hx hb hK hI.1 hI.2.1 hI.2.2 3 1 rfl rfl (by unfold vp_in; decide) dX6_change_21 (fun H locs hP hD hS => ?_)
  have hI : cI (gD g) vwCl (cw g) A s (sA st 1 (upd (gA st 1) (15 : Int32).toNatClampNeg ((((gA st 1) (15 : Int32).toNatClampNeg) &&& (x1 ^^^ (-1 : Int32))) ||| (x2 &&& x1)))) H locs := ⟨hP, hD, hS⟩
  exact cx_vret C hI hF dX6_change_22
set_option maxHeartbeats 4000000 in
set_option maxRecDepth 100000 in
theorem c_cRegisters_change (l : Launch) (g : Gm) (st : CS) (x1 : Int32) (x2 : Int32) : Mv l yX6_change wq_X6_change rm_cRegisters_change (gD g) vwCl (cty g) (cw g) (cz g) [.ref (gad g 2), .int x1, .int x2] st (cRegisters_change st x1 x2) := by
  intro sz
  refine Met.ofW (cc := cX6_change) (maxL := 3) (ret := none) (by decide) rfl ?_
  intro p e s m args below meth c s₁ B hml hv
  obtain ⟨rfl, hsz, hP, hK, hD0, hZ⟩ := hv
  subst hsz
  have hl := lv_entry ([.ref (gad g 2), .int x1, .int x2]) (n := 3) (Nat.le_of_ble_eq_true rfl)
  rw [lg_entry_eq]
  generalize (lg_sl ([.ref (gad g 2), .int x1, .int x2]) ++ List.replicate (3 - (lg_sl ([.ref (gad g 2), .int x1, .int x2])).length) Slot.unset).toArray = ls at hl ⊢
  exact k_cRegisters_change g ⟨B.exec, B.bytes, B.returns, hml, findClass_of_methodNamed B.named, atoms_spec (ws := wq_X6_change) B.pre, B.notSynchronized, hK, fun q h => Or.inr h, hZ, cz_ok g⟩ st x1 x2 _ _ ls ⟨hP, hD0.self, va_S.rf⟩ hl _ rfl
abbrev wq_X6_setSigns : List Cond := .code yX6_setSigns cX6_setSigns 3 none :: wAll
theorem yd_yX6_setSigns : yX6_setSigns.cls = RX6 ∧ yX6_setSigns.cls ≠ "java/lang/invoke/MethodHandle" ∧ yX6_setSigns.cls ≠ "java/lang/invoke/VarHandle" ∧ (parseMethodDescriptor yX6_setSigns.desc).map (fun d => d.parameters.length) = some 1 := by decide +kernel
abbrev rm_cRegisters_setSigns : Room := { frames := 1, cells := 0, slots := 0, locals := 22 }
def cRegisters_setSigns_b14 (st : CS) (x1 : Int32) (y0 : Int32) : CS := (cRegisters_change st y0 x1)
set_option maxHeartbeats 4000000 in
set_option maxRecDepth 100000 in
theorem k_cRegisters_setSigns_b14 {p : Program} {l : Launch} {e : Env} {s : State} {m : MethodId} {args : Array Value} {below : List Frame} {meth : Method} {c : Code} {A : Nat → Prop} (g : Gm) (C : cX p s m args meth c A cX6_setSigns none 3 RX6 wq_X6_setSigns (gD g) vwCl (cty g) (cz g)) (st : CS) (x1 : Int32) (y0 : Int32) (H : Heap) (locs : List Loc) (ls : Array Slot) (hI : cI (gD g) vwCl (cw g) A s st H locs) (hl : lv_has ls 3 [(0, .ref (gad g 2)), (1, .int x1)]) (X : CS) (hF : X = cRegisters_setSigns_b14 st x1 y0) : W p l e rm_cRegisters_setSigns s m args below meth c H locs 0 0 (MQ below (cQv (gD g) vwCl (cty g) (cw g) A X) args s 0 0 A) (F0 m 14 ls [.int y0]) := by
  obtain ⟨hx, hb, hr, hml, hown, hts, hlocks, hK, hA, hZ, hzo⟩ := id C
  unfold cRegisters_setSigns_b14 at hF
  refine lv_istore_n (lv' := [(2, .int y0), (0, .ref (gad g 2)), (1, .int x1)]) hx hb dX6_setSigns_14 rfl hl (by decide) rfl (fun ls hl => ?_)
  refine lv_aload_n hx hb dX6_setSigns_15 rfl (lv_at hl 1 rfl) ?_
  refine lv_iload_n hx hb dX6_setSigns_16 rfl (lv_at hl 0 rfl) ?_
  refine lv_iload_n hx hb dX6_setSigns_17 rfl (lv_at hl 2 rfl) ?_
  refine cx_Vv (As := [.int y0, .int x1]) (rest := []) C (c_cRegisters_change l g st y0 x1) (cwV 2 hts (gd_V _ mw491 mw492 mw493 mw14 mw494) rfl rfl rfl yd_yX6_change ⟨Nat.le_of_ble_eq_true rfl, Nat.le_of_ble_eq_true rfl⟩) (va_recv hK hI.1 (ci := 6) (q0 := 2) rfl rfl) hI rfl hl.1 rfl (Nat.le_of_ble_eq_true rfl) dX6_setSigns_18 (fun H locs hI => ?_)
  exact cx_vret C hI hF dX6_setSigns_21
def cRegisters_setSigns (st : CS) (x1 : Int32) : CS := (if ((cRegisters_mode st) = 0) then (cRegisters_setSigns_b14 st x1 (-268435456 : Int32)) else (cRegisters_setSigns_b14 st x1 (-67108861 : Int32)))
set_option maxHeartbeats 4000000 in
set_option maxRecDepth 100000 in
theorem k_cRegisters_setSigns {p : Program} {l : Launch} {e : Env} {s : State} {m : MethodId} {args : Array Value} {below : List Frame} {meth : Method} {c : Code} {A : Nat → Prop} (g : Gm) (C : cX p s m args meth c A cX6_setSigns none 3 RX6 wq_X6_setSigns (gD g) vwCl (cty g) (cz g)) (st : CS) (x1 : Int32) (H : Heap) (locs : List Loc) (ls : Array Slot) (hI : cI (gD g) vwCl (cw g) A s st H locs) (hl : lv_has ls 3 [(0, .ref (gad g 2)), (1, .int x1)]) (X : CS) (hF : X = cRegisters_setSigns st x1) : W p l e rm_cRegisters_setSigns s m args below meth c H locs 0 0 (MQ below (cQv (gD g) vwCl (cty g) (cw g) A X) args s 0 0 A) (F0 m 0 ls []) := by
  obtain ⟨hx, hb, hr, hml, hown, hts, hlocks, hK, hA, hZ, hzo⟩ := id C
  unfold cRegisters_setSigns at hF
  refine lv_aload_n hx hb dX6_setSigns_0 rfl (lv_at hl 0 rfl) ?_
  refine cx_Vi (As := []) (rest := []) C (c_cRegisters_mode l g st ) (cwV 0 hts (gd_V _ mw490 mw330 mw331 mw14 mw332) rfl rfl rfl yd_yX6_mode ⟨Nat.le_of_ble_eq_true rfl, Nat.le_of_ble_eq_true rfl⟩) (va_recv hK hI.1 (ci := 6) (q0 := 2) rfl rfl) hI rfl hl.1 rfl (Nat.le_of_ble_eq_true rfl) dX6_setSigns_1 (fun H locs hI => ?_)
  refine lv_if_ne (tgt := 12) hx hb dX6_setSigns_4 (by decide) (fun c_4 => ?_) (fun c_4 => ?_)
  · have hF := hF.trans (if_neg c_4)
    refine lv_ldc (v := (-67108861 : Int32)) hx hb hown (hts _ (List.mem_cons_of_mem _ mw369)) dX6_setSigns_12 ?_
    exact k_cRegisters_setSigns_b14 g C st x1 (-67108861 : Int32) H locs ls hI (lv_sub hl [0, 1] rfl) X hF
  · have hF := hF.trans (if_pos c_4)
    refine lv_ldc (v := (-268435456 : Int32)) hx hb hown (hts _ (List.mem_cons_of_mem _ mw489)) dX6_setSigns_7 ?_
    refine lv_goto (tgt := 14) hx hb dX6_setSigns_9 (by decide) ?_
    exact k_cRegisters_setSigns_b14 g C st x1 (-268435456 : Int32) H locs ls hI (lv_sub hl [0, 1] rfl) X hF
set_option maxHeartbeats 4000000 in
set_option maxRecDepth 100000 in
theorem c_cRegisters_setSigns (l : Launch) (g : Gm) (st : CS) (x1 : Int32) : Mv l yX6_setSigns wq_X6_setSigns rm_cRegisters_setSigns (gD g) vwCl (cty g) (cw g) (cz g) [.ref (gad g 2), .int x1] st (cRegisters_setSigns st x1) := by
  intro sz
  refine Met.ofW (cc := cX6_setSigns) (maxL := 3) (ret := none) (by decide) rfl ?_
  intro p e s m args below meth c s₁ B hml hv
  obtain ⟨rfl, hsz, hP, hK, hD0, hZ⟩ := hv
  subst hsz
  have hl := lv_entry ([.ref (gad g 2), .int x1]) (n := 3) (Nat.le_of_ble_eq_true rfl)
  rw [lg_entry_eq]
  generalize (lg_sl ([.ref (gad g 2), .int x1]) ++ List.replicate (3 - (lg_sl ([.ref (gad g 2), .int x1])).length) Slot.unset).toArray = ls at hl ⊢
  exact k_cRegisters_setSigns g ⟨B.exec, B.bytes, B.returns, hml, findClass_of_methodNamed B.named, atoms_spec (ws := wq_X6_setSigns) B.pre, B.notSynchronized, hK, fun q h => Or.inr h, hZ, cz_ok g⟩ st x1 _ _ ls ⟨hP, hD0.self, va_S.rf⟩ hl _ rfl
abbrev wq_X6_setResultSigns : List Cond := .code yX6_setResultSigns cX6_setResultSigns 2 none :: wAll
theorem yd_yX6_setResultSigns : yX6_setResultSigns.cls = RX6 ∧ yX6_setResultSigns.cls ≠ "java/lang/invoke/MethodHandle" ∧ yX6_setResultSigns.cls ≠ "java/lang/invoke/VarHandle" ∧ (parseMethodDescriptor yX6_setResultSigns.desc).map (fun d => d.parameters.length) = some 1 := by decide +kernel
abbrev rm_cRegisters_setResultSigns : Room := { frames := 1, cells := 0, slots := 0, locals := 22 }
def cRegisters_setResultSigns_b17 (st : CS) (y2 : Int32) (y1 : Int32) (y0 : Int32) : CS := (cRegisters_change st y2 (y1 ||| y0))
set_option maxHeartbeats 4000000 in
set_option maxRecDepth 100000 in
theorem k_cRegisters_setResultSigns_b17 {p : Program} {l : Launch} {e : Env} {s : State} {m : MethodId} {args : Array Value} {below : List Frame} {meth : Method} {c : Code} {A : Nat → Prop} (g : Gm) (C : cX p s m args meth c A cX6_setResultSigns none 2 RX6 wq_X6_setResultSigns (gD g) vwCl (cty g) (cz g)) (st : CS) (y2 : Int32) (y1 : Int32) (y0 : Int32) (H : Heap) (locs : List Loc) (ls : Array Slot) (hI : cI (gD g) vwCl (cw g) A s st H locs) (hl : lv_has ls 2 [(0, .ref (gad g 2))]) (X : CS) (hF : X = cRegisters_setResultSigns_b17 st y2 y1 y0) : W p l e rm_cRegisters_setResultSigns s m args below meth c H locs 0 0 (MQ below (cQv (gD g) vwCl (cty g) (cw g) A X) args s 0 0 A) (F0 m 17 ls [.int y0, .int y1, .int y2, .ref (gad g 2)]) := by
  obtain ⟨hx, hb, hr, hml, hown, hts, hlocks, hK, hA, hZ, hzo⟩ := id C
  unfold cRegisters_setResultSigns_b17 at hF
  refine lv_ior hx hb dX6_setResultSigns_17 ?_
  refine cx_Vv (As := [.int y2, .int (y1 ||| y0)]) (rest := []) C (c_cRegisters_change l g st y2 (y1 ||| y0)) (cwV 2 hts (gd_V _ mw491 mw492 mw493 mw14 mw494) rfl rfl rfl yd_yX6_change ⟨Nat.le_of_ble_eq_true rfl, Nat.le_of_ble_eq_true rfl⟩) (va_recv hK hI.1 (ci := 6) (q0 := 2) rfl rfl) hI rfl hl.1 rfl (Nat.le_of_ble_eq_true rfl) dX6_setResultSigns_18 (fun H locs hI => ?_)
  exact cx_vret C hI hF dX6_setResultSigns_21
def cRegisters_setResultSigns (st : CS) (x1 : Int32) : CS := (if (x1 = 0) then (cRegisters_setResultSigns_b17 st (-1073741824 : Int32) (x1 &&& (-2147483648 : Int32)) (1073741824 : Int32)) else (cRegisters_setResultSigns_b17 st (-1073741824 : Int32) (x1 &&& (-2147483648 : Int32)) (0 : Int32)))
set_option maxHeartbeats 4000000 in
set_option maxRecDepth 100000 in
theorem k_cRegisters_setResultSigns {p : Program} {l : Launch} {e : Env} {s : State} {m : MethodId} {args : Array Value} {below : List Frame} {meth : Method} {c : Code} {A : Nat → Prop} (g : Gm) (C : cX p s m args meth c A cX6_setResultSigns none 2 RX6 wq_X6_setResultSigns (gD g) vwCl (cty g) (cz g)) (st : CS) (x1 : Int32) (H : Heap) (locs : List Loc) (ls : Array Slot) (hI : cI (gD g) vwCl (cw g) A s st H locs) (hl : lv_has ls 2 [(0, .ref (gad g 2)), (1, .int x1)]) (X : CS) (hF : X = cRegisters_setResultSigns st x1) : W p l e rm_cRegisters_setResultSigns s m args below meth c H locs 0 0 (MQ below (cQv (gD g) vwCl (cty g) (cw g) A X) args s 0 0 A) (F0 m 0 ls []) := by
  obtain ⟨hx, hb, hr, hml, hown, hts, hlocks, hK, hA, hZ, hzo⟩ := id C
  unfold cRegisters_setResultSigns at hF
  refine lv_aload_n hx hb dX6_setResultSigns_0 rfl (lv_at hl 0 rfl) ?_
  refine lv_ldc (v := (-1073741824 : Int32)) hx hb hown (hts _ (List.mem_cons_of_mem _ mw499)) dX6_setResultSigns_1 ?_
  refine lv_iload_n hx hb dX6_setResultSigns_3 rfl (lv_at hl 1 rfl) ?_
  refine lv_ldc (v := (-2147483648 : Int32)) hx hb hown (hts _ (List.mem_cons_of_mem _ mw500)) dX6_setResultSigns_4 ?_
  refine lv_iand hx hb dX6_setResultSigns_6 ?_
  refine lv_iload_n hx hb dX6_setResultSigns_7 rfl (lv_at hl 1 rfl) ?_
  refine lv_if_ne (tgt := 16) hx hb dX6_setResultSigns_8 (by decide) (fun c_8 => ?_) (fun c_8 => ?_)
  · have hF := hF.trans (if_neg c_8)
    refine lv_iconst (v := (0 : Int32)) hx hb dX6_setResultSigns_16 (by decide) ?_
    exact k_cRegisters_setResultSigns_b17 g C st (-1073741824 : Int32) (x1 &&& (-2147483648 : Int32)) (0 : Int32) H locs ls hI (lv_sub hl [0] rfl) X hF
  · have hF := hF.trans (if_pos c_8)
    refine lv_ldc (v := (1073741824 : Int32)) hx hb hown (hts _ (List.mem_cons_of_mem _ mw501)) dX6_setResultSigns_11 ?_
    refine lv_goto (tgt := 17) hx hb dX6_setResultSigns_13 (by decide) ?_
    exact k_cRegisters_setResultSigns_b17 g C st (-1073741824 : Int32) (x1 &&& (-2147483648 : Int32)) (1073741824 : Int32) H locs ls hI (lv_sub hl [0] rfl) X hF
set_option maxHeartbeats 4000000 in
set_option maxRecDepth 100000 in
theorem c_cRegisters_setResultSigns (l : Launch) (g : Gm) (st : CS) (x1 : Int32) : Mv l yX6_setResultSigns wq_X6_setResultSigns rm_cRegisters_setResultSigns (gD g) vwCl (cty g) (cw g) (cz g) [.ref (gad g 2), .int x1] st (cRegisters_setResultSigns st x1) := by
  intro sz
  refine Met.ofW (cc := cX6_setResultSigns) (maxL := 2) (ret := none) (by decide) rfl ?_
  intro p e s m args below meth c s₁ B hml hv
  obtain ⟨rfl, hsz, hP, hK, hD0, hZ⟩ := hv
  subst hsz
  have hl := lv_entry ([.ref (gad g 2), .int x1]) (n := 2) (Nat.le_of_ble_eq_true rfl)
  rw [lg_entry_eq]
  generalize (lg_sl ([.ref (gad g 2), .int x1]) ++ List.replicate (2 - (lg_sl ([.ref (gad g 2), .int x1])).length) Slot.unset).toArray = ls at hl ⊢
  exact k_cRegisters_setResultSigns g ⟨B.exec, B.bytes, B.returns, hml, findClass_of_methodNamed B.named, atoms_spec (ws := wq_X6_setResultSigns) B.pre, B.notSynchronized, hK, fun q h => Or.inr h, hZ, cz_ok g⟩ st x1 _ _ ls ⟨hP, hD0.self, va_S.rf⟩ hl _ rfl
abbrev wq_X6_setCarryAndOverflow : List Cond := .code yX6_setCarryAndOverflow cX6_setCarryAndOverflow 3 none :: wAll
theorem yd_yX6_setCarryAndOverflow : yX6_setCarryAndOverflow.cls = RX6 ∧ yX6_setCarryAndOverflow.cls ≠ "java/lang/invoke/MethodHandle" ∧ yX6_setCarryAndOverflow.cls ≠ "java/lang/invoke/VarHandle" ∧ (parseMethodDescriptor yX6_setCarryAndOverflow.desc).map (fun d => d.parameters.length) = some 2 := by decide +kernel
abbrev rm_cRegisters_setCarryAndOverflow : Room := { frames := 1, cells := 0, slots := 0, locals := 22 }
def cRegisters_setCarryAndOverflow_b23 (st : CS) (y2 : Int32) (y1 : Int32) (y0 : Int32) : CS := (cRegisters_change st y2 (y1 ||| y0))
set_option maxHeartbeats 4000000 in
set_option maxRecDepth 100000 in
theorem k_cRegisters_setCarryAndOverflow_b23 {p : Program} {l : Launch} {e : Env} {s : State} {m : MethodId} {args : Array Value} {below : List Frame} {meth : Method} {c : Code} {A : Nat → Prop} (g : Gm) (C : cX p s m args meth c A cX6_setCarryAndOverflow none 3 RX6 wq_X6_setCarryAndOverflow (gD g) vwCl (cty g) (cz g)) (st : CS) (y2 : Int32) (y1 : Int32) (y0 : Int32) (H : Heap) (locs : List Loc) (ls : Array Slot) (hI : cI (gD g) vwCl (cw g) A s st H locs) (hl : lv_has ls 3 [(0, .ref (gad g 2))]) (X : CS) (hF : X = cRegisters_setCarryAndOverflow_b23 st y2 y1 y0) : W p l e rm_cRegisters_setCarryAndOverflow s m args below meth c H locs 0 0 (MQ below (cQv (gD g) vwCl (cty g) (cw g) A X) args s 0 0 A) (F0 m 23 ls [.int y0, .int y1, .int y2, .ref (gad g 2)]) := by
  obtain ⟨hx, hb, hr, hml, hown, hts, hlocks, hK, hA, hZ, hzo⟩ := id C
  unfold cRegisters_setCarryAndOverflow_b23 at hF
  refine lv_ior hx hb dX6_setCarryAndOverflow_23 ?_
  refine cx_Vv (As := [.int y2, .int (y1 ||| y0)]) (rest := []) C (c_cRegisters_change l g st y2 (y1 ||| y0)) (cwV 2 hts (gd_V _ mw491 mw492 mw493 mw14 mw494) rfl rfl rfl yd_yX6_change ⟨Nat.le_of_ble_eq_true rfl, Nat.le_of_ble_eq_true rfl⟩) (va_recv hK hI.1 (ci := 6) (q0 := 2) rfl rfl) hI rfl hl.1 rfl (Nat.le_of_ble_eq_true rfl) dX6_setCarryAndOverflow_24 (fun H locs hI => ?_)
  exact cx_vret C hI hF dX6_setCarryAndOverflow_27
def cRegisters_setCarryAndOverflow_b13 (st : CS) (x2 : Int32) (y1 : Int32) (y0 : Int32) : CS := (if (x2 = 0) then (cRegisters_setCarryAndOverflow_b23 st y1 y0 (0 : Int32)) else (cRegisters_setCarryAndOverflow_b23 st y1 y0 (268435456 : Int32)))
set_option maxHeartbeats 4000000 in
set_option maxRecDepth 100000 in
theorem k_cRegisters_setCarryAndOverflow_b13 {p : Program} {l : Launch} {e : Env} {s : State} {m : MethodId} {args : Array Value} {below : List Frame} {meth : Method} {c : Code} {A : Nat → Prop} (g : Gm) (C : cX p s m args meth c A cX6_setCarryAndOverflow none 3 RX6 wq_X6_setCarryAndOverflow (gD g) vwCl (cty g) (cz g)) (st : CS) (x2 : Int32) (y1 : Int32) (y0 : Int32) (H : Heap) (locs : List Loc) (ls : Array Slot) (hI : cI (gD g) vwCl (cw g) A s st H locs) (hl : lv_has ls 3 [(0, .ref (gad g 2)), (2, .int x2)]) (X : CS) (hF : X = cRegisters_setCarryAndOverflow_b13 st x2 y1 y0) : W p l e rm_cRegisters_setCarryAndOverflow s m args below meth c H locs 0 0 (MQ below (cQv (gD g) vwCl (cty g) (cw g) A X) args s 0 0 A) (F0 m 13 ls [.int y0, .int y1, .ref (gad g 2)]) := by
  obtain ⟨hx, hb, hr, hml, hown, hts, hlocks, hK, hA, hZ, hzo⟩ := id C
  unfold cRegisters_setCarryAndOverflow_b13 at hF
  refine lv_iload_n hx hb dX6_setCarryAndOverflow_13 rfl (lv_at hl 1 rfl) ?_
  refine lv_if_eq (tgt := 22) hx hb dX6_setCarryAndOverflow_14 (by decide) (fun c_14 => ?_) (fun c_14 => ?_)
  · have hF := hF.trans (if_pos c_14)
    refine lv_iconst (v := (0 : Int32)) hx hb dX6_setCarryAndOverflow_22 (by decide) ?_
    exact k_cRegisters_setCarryAndOverflow_b23 g C st y1 y0 (0 : Int32) H locs ls hI (lv_sub hl [0] rfl) X hF
  · have hF := hF.trans (if_neg c_14)
    refine lv_ldc (v := (268435456 : Int32)) hx hb hown (hts _ (List.mem_cons_of_mem _ mw508)) dX6_setCarryAndOverflow_17 ?_
    refine lv_goto (tgt := 23) hx hb dX6_setCarryAndOverflow_19 (by decide) ?_
    exact k_cRegisters_setCarryAndOverflow_b23 g C st y1 y0 (268435456 : Int32) H locs ls hI (lv_sub hl [0] rfl) X hF
def cRegisters_setCarryAndOverflow (st : CS) (x1 : Int32) (x2 : Int32) : CS := (if (x1 = 0) then (cRegisters_setCarryAndOverflow_b13 st x2 (805306368 : Int32) (0 : Int32)) else (cRegisters_setCarryAndOverflow_b13 st x2 (805306368 : Int32) (536870912 : Int32)))
set_option maxHeartbeats 4000000 in
set_option maxRecDepth 100000 in
theorem k_cRegisters_setCarryAndOverflow {p : Program} {l : Launch} {e : Env} {s : State} {m : MethodId} {args : Array Value} {below : List Frame} {meth : Method} {c : Code} {A : Nat → Prop} (g : Gm) (C : cX p s m args meth c A cX6_setCarryAndOverflow none 3 RX6 wq_X6_setCarryAndOverflow (gD g) vwCl (cty g) (cz g)) (st : CS) (x1 : Int32) (x2 : Int32) (H : Heap) (locs : List Loc) (ls : Array Slot) (hI : cI (gD g) vwCl (cw g) A s st H locs) (hl : lv_has ls 3 [(0, .ref (gad g 2)), (1, .int x1), (2, .int x2)]) (X : CS) (hF : X = cRegisters_setCarryAndOverflow st x1 x2) : W p l e rm_cRegisters_setCarryAndOverflow s m args below meth c H locs 0 0 (MQ below (cQv (gD g) vwCl (cty g) (cw g) A X) args s 0 0 A) (F0 m 0 ls []) := by
  obtain ⟨hx, hb, hr, hml, hown, hts, hlocks, hK, hA, hZ, hzo⟩ := id C
  unfold cRegisters_setCarryAndOverflow at hF
  refine lv_aload_n hx hb dX6_setCarryAndOverflow_0 rfl (lv_at hl 0 rfl) ?_
  refine lv_ldc (v := (805306368 : Int32)) hx hb hown (hts _ (List.mem_cons_of_mem _ mw506)) dX6_setCarryAndOverflow_1 ?_
  refine lv_iload_n hx hb dX6_setCarryAndOverflow_3 rfl (lv_at hl 1 rfl) ?_
  refine lv_if_eq (tgt := 12) hx hb dX6_setCarryAndOverflow_4 (by decide) (fun c_4 => ?_) (fun c_4 => ?_)
  · have hF := hF.trans (if_pos c_4)
    refine lv_iconst (v := (0 : Int32)) hx hb dX6_setCarryAndOverflow_12 (by decide) ?_
    exact k_cRegisters_setCarryAndOverflow_b13 g C st x2 (805306368 : Int32) (0 : Int32) H locs ls hI (lv_sub hl [0, 2] rfl) X hF
  · have hF := hF.trans (if_neg c_4)
    refine lv_ldc (v := (536870912 : Int32)) hx hb hown (hts _ (List.mem_cons_of_mem _ mw507)) dX6_setCarryAndOverflow_7 ?_
    refine lv_goto (tgt := 13) hx hb dX6_setCarryAndOverflow_9 (by decide) ?_
    exact k_cRegisters_setCarryAndOverflow_b13 g C st x2 (805306368 : Int32) (536870912 : Int32) H locs ls hI (lv_sub hl [0, 2] rfl) X hF
set_option maxHeartbeats 4000000 in
set_option maxRecDepth 100000 in
theorem c_cRegisters_setCarryAndOverflow (l : Launch) (g : Gm) (st : CS) (x1 : Int32) (x2 : Int32) : Mv l yX6_setCarryAndOverflow wq_X6_setCarryAndOverflow rm_cRegisters_setCarryAndOverflow (gD g) vwCl (cty g) (cw g) (cz g) [.ref (gad g 2), .int x1, .int x2] st (cRegisters_setCarryAndOverflow st x1 x2) := by
  intro sz
  refine Met.ofW (cc := cX6_setCarryAndOverflow) (maxL := 3) (ret := none) (by decide) rfl ?_
  intro p e s m args below meth c s₁ B hml hv
  obtain ⟨rfl, hsz, hP, hK, hD0, hZ⟩ := hv
  subst hsz
  have hl := lv_entry ([.ref (gad g 2), .int x1, .int x2]) (n := 3) (Nat.le_of_ble_eq_true rfl)
  rw [lg_entry_eq]
  generalize (lg_sl ([.ref (gad g 2), .int x1, .int x2]) ++ List.replicate (3 - (lg_sl ([.ref (gad g 2), .int x1, .int x2])).length) Slot.unset).toArray = ls at hl ⊢
  exact k_cRegisters_setCarryAndOverflow g ⟨B.exec, B.bytes, B.returns, hml, findClass_of_methodNamed B.named, atoms_spec (ws := wq_X6_setCarryAndOverflow) B.pre, B.notSynchronized, hK, fun q h => Or.inr h, hZ, cz_ok g⟩ st x1 x2 _ _ ls ⟨hP, hD0.self, va_S.rf⟩ hl _ rfl
abbrev wq_X6_enter : List Cond := .code yX6_enter cX6_enter 4 none :: wAll
theorem yd_yX6_enter : yX6_enter.cls = RX6 ∧ yX6_enter.cls ≠ "java/lang/invoke/MethodHandle" ∧ yX6_enter.cls ≠ "java/lang/invoke/VarHandle" ∧ (parseMethodDescriptor yX6_enter.desc).map (fun d => d.parameters.length) = some 3 := by decide +kernel
abbrev rm_cRegisters_enter : Room := { frames := 1, cells := 0, slots := 0, locals := 20 }
def cRegisters_enter (st : CS) (x1 : Int32) (x2 : Int32) (x3 : Int32) : CS := (sA st 1 (upd (gA st 1) (15 : Int32).toNatClampNeg (((((cRegisters_signs st) &&& (-4 : Int32)) ||| x1) ||| x2) ||| x3)))
set_option maxHeartbeats 4000000 in
set_option maxRecDepth 100000 in
theorem k_cRegisters_enter {p : Program} {l : Launch} {e : Env} {s : State} {m : MethodId} {args : Array Value} {below : List Frame} {meth : Method} {c : Code} {A : Nat → Prop} (g : Gm) (C : cX p s m args meth c A cX6_enter none 4 RX6 wq_X6_enter (gD g) vwCl (cty g) (cz g)) (st : CS) (x1 : Int32) (x2 : Int32) (x3 : Int32) (H : Heap) (locs : List Loc) (ls : Array Slot) (hI : cI (gD g) vwCl (cw g) A s st H locs) (hl : lv_has ls 4 [(0, .ref (gad g 2)), (1, .int x1), (2, .int x2), (3, .int x3)]) (X : CS) (hF : X = cRegisters_enter st x1 x2 x3) : W p l e rm_cRegisters_enter s m args below meth c H locs 0 0 (MQ below (cQv (gD g) vwCl (cty g) (cw g) A X) args s 0 0 A) (F0 m 0 ls []) := by
  obtain ⟨hx, hb, hr, hml, hown, hts, hlocks, hK, hA, hZ, hzo⟩ := id C
  unfold cRegisters_enter at hF
  refine lv_aload_n hx hb dX6_enter_0 rfl (lv_at hl 0 rfl) ?_
  refine va_get (D := gD g) (ci := 6) (C := RX6) (T := TX6) (N := 1) (v := .ref (gad g 3)) hx hb hts (fun w h => List.mem_cons_of_mem _ (isX60 w h)) hown hK hI.1 2 rfl rfl 0 (by decide) (hts _ (List.mem_cons_of_mem _ mw52)) (fun _ h9 => h9) rfl dX6_enter_1 ?_
  refine lv_bipush (v := (15 : Int32)) hx hb dX6_enter_4 (by decide) ?_
  refine lv_aload_n hx hb dX6_enter_6 rfl (lv_at hl 0 rfl) ?_
  refine cx_Vi (As := []) (rest := [.int (15 : Int32), .ref (gad g 3)]) C (c_cRegisters_signs l g st ) (cwV 0 hts (gd_V _ mw365 mw366 mw367 mw14 mw368) rfl rfl rfl yd_yX6_signs ⟨Nat.le_of_ble_eq_true rfl, Nat.le_of_ble_eq_true rfl⟩) (va_recv hK hI.1 (ci := 6) (q0 := 2) rfl rfl) hI rfl hl.1 rfl (Nat.le_of_ble_eq_true rfl) dX6_enter_7 (fun H locs hI => ?_)
  refine lv_bipush (v := (-4 : Int32)) hx hb dX6_enter_10 (by decide) ?_
  refine lv_iand hx hb dX6_enter_12 ?_
  refine lv_iload_n hx hb dX6_enter_13 rfl (lv_at hl 1 rfl) ?_
  refine lv_ior hx hb dX6_enter_14 ?_
  refine lv_iload_n hx hb dX6_enter_15 rfl (lv_at hl 2 rfl) ?_
  refine lv_ior hx hb dX6_enter_16 ?_
  refine lv_iload_n hx hb dX6_enter_17 rfl (lv_at hl 3 rfl) ?_
  refine lv_ior hx hb dX6_enter_18 ?_
  refine va_iast (f := (gA st 1)) hx hb hK hI.1 hI.2.1 hI.2.2 3 1 rfl rfl (by unfold vp_in; decide) dX6_enter_19 (fun H locs hP hD hS => ?_)
  have hI : cI (gD g) vwCl (cw g) A s (sA st 1 (upd (gA st 1) (15 : Int32).toNatClampNeg (((((cRegisters_signs st) &&& (-4 : Int32)) ||| x1) ||| x2) ||| x3))) H locs := ⟨hP, hD, hS⟩
  exact cx_vret C hI hF dX6_enter_20
set_option maxHeartbeats 4000000 in
set_option maxRecDepth 100000 in
theorem c_cRegisters_enter (l : Launch) (g : Gm) (st : CS) (x1 : Int32) (x2 : Int32) (x3 : Int32) : Mv l yX6_enter wq_X6_enter rm_cRegisters_enter (gD g) vwCl (cty g) (cw g) (cz g) [.ref (gad g 2), .int x1, .int x2, .int x3] st (cRegisters_enter st x1 x2 x3) := by
  intro sz
  refine Met.ofW (cc := cX6_enter) (maxL := 4) (ret := none) (by decide) rfl ?_
  intro p e s m args below meth c s₁ B hml hv
  obtain ⟨rfl, hsz, hP, hK, hD0, hZ⟩ := hv
  subst hsz
  have hl := lv_entry ([.ref (gad g 2), .int x1, .int x2, .int x3]) (n := 4) (Nat.le_of_ble_eq_true rfl)
  rw [lg_entry_eq]
  generalize (lg_sl ([.ref (gad g 2), .int x1, .int x2, .int x3]) ++ List.replicate (4 - (lg_sl ([.ref (gad g 2), .int x1, .int x2, .int x3])).length) Slot.unset).toArray = ls at hl ⊢
  exact k_cRegisters_enter g ⟨B.exec, B.bytes, B.returns, hml, findClass_of_methodNamed B.named, atoms_spec (ws := wq_X6_enter) B.pre, B.notSynchronized, hK, fun q h => Or.inr h, hZ, cz_ok g⟩ st x1 x2 x3 _ _ ls ⟨hP, hD0.self, va_S.rf⟩ hl _ rfl
abbrev rm_cArrays_fill5 : Room := { frames := 0, cells := 0, slots := 0, locals := 0 }
def cArrays_fill5_b5 : Nat → CS → Int32 → Int32 → Int32 → Option (CS)
  | 0, _, _, _, _ => none
  | n + 1, st, x1, x2, x3 => (if (x3 ≤ x2) then (some st) else (cArrays_fill5_b5 n (sA st 2 (upd (gA st 2) x2.toNatClampNeg x1)) x1 (x2 + (1 : Int32)) x3))
set_option maxHeartbeats 4000000 in
set_option maxRecDepth 100000 in
theorem k_cArrays_fill5_b5 {p : Program} {l : Launch} {e : Env} {s : State} {m : MethodId} {args : Array Value} {below : List Frame} {meth : Method} {c : Code} {A : Nat → Prop} (g : Gm) (C : cX p s m args meth c A cJ7_fill_53178 none 4 RJ7 wq_J7_fill_53178 (gD g) vwCl (cty g) (cz g)) : ∀ (n : Nat) (st : CS) (x1 : Int32) (x2 : Int32) (x3 : Int32) (H : Heap) (locs : List Loc) (ls : Array Slot), cI (gD g) vwCl (cw g) A s st H locs → lv_has ls 4 [(0, .ref (gad g 5)), (1, .int x1), (2, .int x2), (3, .int x3)] → fl_ok 16 x2 x3 → ∀ (X : CS), some X = cArrays_fill5_b5 n st x1 x2 x3 → W p l e rm_cArrays_fill5 s m args below meth c H locs 0 0 (MQ below (cQv (gD g) vwCl (cty g) (cw g) A X) args s 0 0 A) (F0 m 5 ls []) := by
  obtain ⟨hx, hb, hr, hml, hown, hts, hlocks, hK, hA, hZ, hzo⟩ := id C
  intro n
  induction n with
  | zero => intro st x1 x2 x3 H locs ls hI hl hf X hF; exact absurd hF (by simp [cArrays_fill5_b5])
  | succ n ih =>
    intro st x1 x2 x3 H locs ls hI hl hf X hF
    rw [cArrays_fill5_b5] at hF
    refine lv_iload_n hx hb dJ7_fill_53178_5 rfl (lv_at hl 2 rfl) ?_
    refine lv_iload_n hx hb dJ7_fill_53178_6 rfl (lv_at hl 3 rfl) ?_
    refine lv_icmp_ge (tgt := 20) hx hb dJ7_fill_53178_7 (by decide) (fun c_7 => ?_) (fun c_7 => ?_)
    · have hF := hF.trans (if_pos c_7)
      have hF := Option.some.inj hF
      exact cx_vret C hI hF dJ7_fill_53178_20
    · have hF := hF.trans (if_neg c_7)
      refine lv_aload_n hx hb dJ7_fill_53178_10 rfl (lv_at hl 0 rfl) ?_
      refine lv_iload_n hx hb dJ7_fill_53178_11 rfl (lv_at hl 2 rfl) ?_
      refine lv_iload_n hx hb dJ7_fill_53178_12 rfl (lv_at hl 1 rfl) ?_
      refine va_iast (f := (gA st 2)) hx hb hK hI.1 hI.2.1 hI.2.2 5 2 rfl rfl (fl_in (by decide) hf c_7) dJ7_fill_53178_13 (fun H locs hP hD hS => ?_)
      have hI : cI (gD g) vwCl (cw g) A s (sA st 2 (upd (gA st 2) x2.toNatClampNeg x1)) H locs := ⟨hP, hD, hS⟩
      refine lv_iinc (v := (x2 + (1 : Int32))) (lv' := [(2, .int (x2 + (1 : Int32))), (0, .ref (gad g 5)), (1, .int x1), (3, .int x3)]) hx hb dJ7_fill_53178_14 hl (k := 2) rfl rfl (by decide) rfl (fun ls hl => ?_)
      refine lv_goto (tgt := 5) hx hb dJ7_fill_53178_17 (by decide) ?_
      exact ih (sA st 2 (upd (gA st 2) x2.toNatClampNeg x1)) x1 (x2 + (1 : Int32)) x3 H locs ls hI (lv_sub hl [1, 2, 0, 3] rfl) (fl_st hf (by decide) c_7) X hF
def cArrays_fill5_b5t (st : CS) (x1 : Int32) (x2 : Int32) (x3 : Int32) : CS := (cArrays_fill5_b5 (17) st x1 x2 x3).getD st
theorem u_cArrays_fill5 (x1 : Int32) : ∀ (n j : Nat) (st : CS), j ≤ 16 → 16 - j < n → cArrays_fill5_b5 n st x1 (nI j) (nI 16) = some (fillS 2 st j 16 x1) := by
  intro n
  induction n with
  | zero => intro j st h1 h2; omega
  | succ n ih =>
    intro j st h1 h2
    rw [cArrays_fill5_b5]
    rcases Nat.lt_or_ge j 16 with q | q
    · rw [if_neg (nI_ge q (by decide)), show nI j + (1 : Int32) = nI (j + 1) from nI_1 j, nI_clamp (by omega), ih (j + 1) _ q (by omega), fillS_st 2 st j 16 x1 q]
    · have e : j = 16 := by omega
      subst e
      rw [if_pos (nI_le (Nat.le_refl _) (by decide)), fillS_0]
theorem t_cArrays_fill5_b5 (st : CS) (x1 x2 x3 : Int32) (hf : fl_ok 16 x2 x3) : some (cArrays_fill5_b5t st x1 x2 x3) = cArrays_fill5_b5 (17) st x1 x2 x3 := by
  obtain ⟨j, hj, rfl, rfl⟩ := hf
  exact some_getD ⟨_, u_cArrays_fill5 x1 _ j st hj (by omega)⟩
set_option maxHeartbeats 4000000 in
set_option maxRecDepth 100000 in
theorem k_cArrays_fill5_b5t {p : Program} {l : Launch} {e : Env} {s : State} {m : MethodId} {args : Array Value} {below : List Frame} {meth : Method} {c : Code} {A : Nat → Prop} (g : Gm) (C : cX p s m args meth c A cJ7_fill_53178 none 4 RJ7 wq_J7_fill_53178 (gD g) vwCl (cty g) (cz g)) (st : CS) (x1 : Int32) (x2 : Int32) (x3 : Int32) (H : Heap) (locs : List Loc) (ls : Array Slot) (hI : cI (gD g) vwCl (cw g) A s st H locs) (hl : lv_has ls 4 [(0, .ref (gad g 5)), (1, .int x1), (2, .int x2), (3, .int x3)]) (hf : fl_ok 16 x2 x3) (X : CS) (hF : X = cArrays_fill5_b5t st x1 x2 x3) : W p l e rm_cArrays_fill5 s m args below meth c H locs 0 0 (MQ below (cQv (gD g) vwCl (cty g) (cw g) A X) args s 0 0 A) (F0 m 5 ls []) := by
  refine k_cArrays_fill5_b5 g C (17) st x1 x2 x3 H locs ls hI hl hf X ?_
  rw [hF]
  exact t_cArrays_fill5_b5 st x1 x2 x3 hf
def cArrays_fill5 (st : CS) (x1 : Int32) : CS := (cArrays_fill5_b5t st x1 (0 : Int32) (16 : Int32))
set_option maxHeartbeats 4000000 in
set_option maxRecDepth 100000 in
theorem k_cArrays_fill5 {p : Program} {l : Launch} {e : Env} {s : State} {m : MethodId} {args : Array Value} {below : List Frame} {meth : Method} {c : Code} {A : Nat → Prop} (g : Gm) (C : cX p s m args meth c A cJ7_fill_53178 none 4 RJ7 wq_J7_fill_53178 (gD g) vwCl (cty g) (cz g)) (st : CS) (x1 : Int32) (H : Heap) (locs : List Loc) (ls : Array Slot) (hI : cI (gD g) vwCl (cw g) A s st H locs) (hl : lv_has ls 4 [(0, .ref (gad g 5)), (1, .int x1)]) (X : CS) (hF : X = cArrays_fill5 st x1) : W p l e rm_cArrays_fill5 s m args below meth c H locs 0 0 (MQ below (cQv (gD g) vwCl (cty g) (cw g) A X) args s 0 0 A) (F0 m 0 ls []) := by
  obtain ⟨hx, hb, hr, hml, hown, hts, hlocks, hK, hA, hZ, hzo⟩ := id C
  unfold cArrays_fill5 at hF
  refine lv_iconst (v := (0 : Int32)) hx hb dJ7_fill_53178_0 (by decide) ?_
  refine lv_istore_n (lv' := [(2, .int (0 : Int32)), (0, .ref (gad g 5)), (1, .int x1)]) hx hb dJ7_fill_53178_1 rfl hl (by decide) rfl (fun ls hl => ?_)
  refine lv_aload_n hx hb dJ7_fill_53178_2 rfl (lv_at hl 1 rfl) ?_
  refine va_alen (v := (16 : Int32)) hx hb hK hI.1 5 2 rfl rfl rfl dJ7_fill_53178_3 ?_
  refine lv_istore_n (lv' := [(3, .int (16 : Int32)), (2, .int (0 : Int32)), (0, .ref (gad g 5)), (1, .int x1)]) hx hb dJ7_fill_53178_4 rfl hl (by decide) rfl (fun ls hl => ?_)
  exact k_cArrays_fill5_b5t g C st x1 (0 : Int32) (16 : Int32) H locs ls hI (lv_sub hl [2, 3, 1, 0] rfl) ⟨0, Nat.zero_le _, rfl, rfl⟩ X hF
set_option maxHeartbeats 4000000 in
set_option maxRecDepth 100000 in
theorem c_cArrays_fill5 (l : Launch) (g : Gm) (st : CS) (x1 : Int32) : Mv l yJ7_fill_53178 wq_J7_fill_53178 rm_cArrays_fill5 (gD g) vwCl (cty g) (cw g) (cz g) [.ref (gad g 5), .int x1] st (cArrays_fill5 st x1) := by
  intro sz
  refine Met.ofW (cc := cJ7_fill_53178) (maxL := 4) (ret := none) (by decide) rfl ?_
  intro p e s m args below meth c s₁ B hml hv
  obtain ⟨rfl, hsz, hP, hK, hD0, hZ⟩ := hv
  subst hsz
  have hl := lv_entry ([.ref (gad g 5), .int x1]) (n := 4) (Nat.le_of_ble_eq_true rfl)
  rw [lg_entry_eq]
  generalize (lg_sl ([.ref (gad g 5), .int x1]) ++ List.replicate (4 - (lg_sl ([.ref (gad g 5), .int x1])).length) Slot.unset).toArray = ls at hl ⊢
  exact k_cArrays_fill5 g ⟨B.exec, B.bytes, B.returns, hml, findClass_of_methodNamed B.named, atoms_spec (ws := wq_J7_fill_53178) B.pre, B.notSynchronized, hK, fun q h => Or.inr h, hZ, cz_ok g⟩ st x1 _ _ ls ⟨hP, hD0.self, va_S.rf⟩ hl _ rfl
theorem r_cArrays_fill5 (st : CS) (x1 : Int32) : cArrays_fill5 st x1 = fillS 2 st 0 16 x1 := by
  show (cArrays_fill5_b5 (17) st x1 (nI 0) (nI 16)).getD st = _
  rw [u_cArrays_fill5 x1 _ 0 st (Nat.zero_le _) (by decide)]
  rfl
abbrev rm_cArrays_fill6 : Room := { frames := 0, cells := 0, slots := 0, locals := 0 }
def cArrays_fill6_b5 : Nat → CS → Int32 → Int32 → Int32 → Option (CS)
  | 0, _, _, _, _ => none
  | n + 1, st, x1, x2, x3 => (if (x3 ≤ x2) then (some st) else (cArrays_fill6_b5 n (sA st 3 (upd (gA st 3) x2.toNatClampNeg x1)) x1 (x2 + (1 : Int32)) x3))
set_option maxHeartbeats 4000000 in
set_option maxRecDepth 100000 in
theorem k_cArrays_fill6_b5 {p : Program} {l : Launch} {e : Env} {s : State} {m : MethodId} {args : Array Value} {below : List Frame} {meth : Method} {c : Code} {A : Nat → Prop} (g : Gm) (C : cX p s m args meth c A cJ7_fill_53178 none 4 RJ7 wq_J7_fill_53178 (gD g) vwCl (cty g) (cz g)) : ∀ (n : Nat) (st : CS) (x1 : Int32) (x2 : Int32) (x3 : Int32) (H : Heap) (locs : List Loc) (ls : Array Slot), cI (gD g) vwCl (cw g) A s st H locs → lv_has ls 4 [(0, .ref (gad g 6)), (1, .int x1), (2, .int x2), (3, .int x3)] → fl_ok 16 x2 x3 → ∀ (X : CS), some X = cArrays_fill6_b5 n st x1 x2 x3 → W p l e rm_cArrays_fill6 s m args below meth c H locs 0 0 (MQ below (cQv (gD g) vwCl (cty g) (cw g) A X) args s 0 0 A) (F0 m 5 ls []) := by
  obtain ⟨hx, hb, hr, hml, hown, hts, hlocks, hK, hA, hZ, hzo⟩ := id C
  intro n
  induction n with
  | zero => intro st x1 x2 x3 H locs ls hI hl hf X hF; exact absurd hF (by simp [cArrays_fill6_b5])
  | succ n ih =>
    intro st x1 x2 x3 H locs ls hI hl hf X hF
    rw [cArrays_fill6_b5] at hF
    refine lv_iload_n hx hb dJ7_fill_53178_5 rfl (lv_at hl 2 rfl) ?_
    refine lv_iload_n hx hb dJ7_fill_53178_6 rfl (lv_at hl 3 rfl) ?_
    refine lv_icmp_ge (tgt := 20) hx hb dJ7_fill_53178_7 (by decide) (fun c_7 => ?_) (fun c_7 => ?_)
    · have hF := hF.trans (if_pos c_7)
      have hF := Option.some.inj hF
      exact cx_vret C hI hF dJ7_fill_53178_20
    · have hF := hF.trans (if_neg c_7)
      refine lv_aload_n hx hb dJ7_fill_53178_10 rfl (lv_at hl 0 rfl) ?_
      refine lv_iload_n hx hb dJ7_fill_53178_11 rfl (lv_at hl 2 rfl) ?_
      refine lv_iload_n hx hb dJ7_fill_53178_12 rfl (lv_at hl 1 rfl) ?_
      refine va_iast (f := (gA st 3)) hx hb hK hI.1 hI.2.1 hI.2.2 6 3 rfl rfl (fl_in (by decide) hf c_7) dJ7_fill_53178_13 (fun H locs hP hD hS => ?_)
      have hI : cI (gD g) vwCl (cw g) A s (sA st 3 (upd (gA st 3) x2.toNatClampNeg x1)) H locs := ⟨hP, hD, hS⟩
      refine lv_iinc (v := (x2 + (1 : Int32))) (lv' := [(2, .int (x2 + (1 : Int32))), (0, .ref (gad g 6)), (1, .int x1), (3, .int x3)]) hx hb dJ7_fill_53178_14 hl (k := 2) rfl rfl (by decide) rfl (fun ls hl => ?_)
      refine lv_goto (tgt := 5) hx hb dJ7_fill_53178_17 (by decide) ?_
      exact ih (sA st 3 (upd (gA st 3) x2.toNatClampNeg x1)) x1 (x2 + (1 : Int32)) x3 H locs ls hI (lv_sub hl [1, 2, 0, 3] rfl) (fl_st hf (by decide) c_7) X hF
def cArrays_fill6_b5t (st : CS) (x1 : Int32) (x2 : Int32) (x3 : Int32) : CS := (cArrays_fill6_b5 (17) st x1 x2 x3).getD st
theorem u_cArrays_fill6 (x1 : Int32) : ∀ (n j : Nat) (st : CS), j ≤ 16 → 16 - j < n → cArrays_fill6_b5 n st x1 (nI j) (nI 16) = some (fillS 3 st j 16 x1) := by
  intro n
  induction n with
  | zero => intro j st h1 h2; omega
  | succ n ih =>
    intro j st h1 h2
    rw [cArrays_fill6_b5]
    rcases Nat.lt_or_ge j 16 with q | q
    · rw [if_neg (nI_ge q (by decide)), show nI j + (1 : Int32) = nI (j + 1) from nI_1 j, nI_clamp (by omega), ih (j + 1) _ q (by omega), fillS_st 3 st j 16 x1 q]
    · have e : j = 16 := by omega
      subst e
      rw [if_pos (nI_le (Nat.le_refl _) (by decide)), fillS_0]
theorem t_cArrays_fill6_b5 (st : CS) (x1 x2 x3 : Int32) (hf : fl_ok 16 x2 x3) : some (cArrays_fill6_b5t st x1 x2 x3) = cArrays_fill6_b5 (17) st x1 x2 x3 := by
  obtain ⟨j, hj, rfl, rfl⟩ := hf
  exact some_getD ⟨_, u_cArrays_fill6 x1 _ j st hj (by omega)⟩
set_option maxHeartbeats 4000000 in
set_option maxRecDepth 100000 in
theorem k_cArrays_fill6_b5t {p : Program} {l : Launch} {e : Env} {s : State} {m : MethodId} {args : Array Value} {below : List Frame} {meth : Method} {c : Code} {A : Nat → Prop} (g : Gm) (C : cX p s m args meth c A cJ7_fill_53178 none 4 RJ7 wq_J7_fill_53178 (gD g) vwCl (cty g) (cz g)) (st : CS) (x1 : Int32) (x2 : Int32) (x3 : Int32) (H : Heap) (locs : List Loc) (ls : Array Slot) (hI : cI (gD g) vwCl (cw g) A s st H locs) (hl : lv_has ls 4 [(0, .ref (gad g 6)), (1, .int x1), (2, .int x2), (3, .int x3)]) (hf : fl_ok 16 x2 x3) (X : CS) (hF : X = cArrays_fill6_b5t st x1 x2 x3) : W p l e rm_cArrays_fill6 s m args below meth c H locs 0 0 (MQ below (cQv (gD g) vwCl (cty g) (cw g) A X) args s 0 0 A) (F0 m 5 ls []) := by
  refine k_cArrays_fill6_b5 g C (17) st x1 x2 x3 H locs ls hI hl hf X ?_
  rw [hF]
  exact t_cArrays_fill6_b5 st x1 x2 x3 hf
def cArrays_fill6 (st : CS) (x1 : Int32) : CS := (cArrays_fill6_b5t st x1 (0 : Int32) (16 : Int32))
set_option maxHeartbeats 4000000 in
set_option maxRecDepth 100000 in
theorem k_cArrays_fill6 {p : Program} {l : Launch} {e : Env} {s : State} {m : MethodId} {args : Array Value} {below : List Frame} {meth : Method} {c : Code} {A : Nat → Prop} (g : Gm) (C : cX p s m args meth c A cJ7_fill_53178 none 4 RJ7 wq_J7_fill_53178 (gD g) vwCl (cty g) (cz g)) (st : CS) (x1 : Int32) (H : Heap) (locs : List Loc) (ls : Array Slot) (hI : cI (gD g) vwCl (cw g) A s st H locs) (hl : lv_has ls 4 [(0, .ref (gad g 6)), (1, .int x1)]) (X : CS) (hF : X = cArrays_fill6 st x1) : W p l e rm_cArrays_fill6 s m args below meth c H locs 0 0 (MQ below (cQv (gD g) vwCl (cty g) (cw g) A X) args s 0 0 A) (F0 m 0 ls []) := by
  obtain ⟨hx, hb, hr, hml, hown, hts, hlocks, hK, hA, hZ, hzo⟩ := id C
  unfold cArrays_fill6 at hF
  refine lv_iconst (v := (0 : Int32)) hx hb dJ7_fill_53178_0 (by decide) ?_
  refine lv_istore_n (lv' := [(2, .int (0 : Int32)), (0, .ref (gad g 6)), (1, .int x1)]) hx hb dJ7_fill_53178_1 rfl hl (by decide) rfl (fun ls hl => ?_)
  refine lv_aload_n hx hb dJ7_fill_53178_2 rfl (lv_at hl 1 rfl) ?_
  refine va_alen (v := (16 : Int32)) hx hb hK hI.1 6 3 rfl rfl rfl dJ7_fill_53178_3 ?_
  refine lv_istore_n (lv' := [(3, .int (16 : Int32)), (2, .int (0 : Int32)), (0, .ref (gad g 6)), (1, .int x1)]) hx hb dJ7_fill_53178_4 rfl hl (by decide) rfl (fun ls hl => ?_)
  exact k_cArrays_fill6_b5t g C st x1 (0 : Int32) (16 : Int32) H locs ls hI (lv_sub hl [2, 3, 1, 0] rfl) ⟨0, Nat.zero_le _, rfl, rfl⟩ X hF
set_option maxHeartbeats 4000000 in
set_option maxRecDepth 100000 in
theorem c_cArrays_fill6 (l : Launch) (g : Gm) (st : CS) (x1 : Int32) : Mv l yJ7_fill_53178 wq_J7_fill_53178 rm_cArrays_fill6 (gD g) vwCl (cty g) (cw g) (cz g) [.ref (gad g 6), .int x1] st (cArrays_fill6 st x1) := by
  intro sz
  refine Met.ofW (cc := cJ7_fill_53178) (maxL := 4) (ret := none) (by decide) rfl ?_
  intro p e s m args below meth c s₁ B hml hv
  obtain ⟨rfl, hsz, hP, hK, hD0, hZ⟩ := hv
  subst hsz
  have hl := lv_entry ([.ref (gad g 6), .int x1]) (n := 4) (Nat.le_of_ble_eq_true rfl)
  rw [lg_entry_eq]
  generalize (lg_sl ([.ref (gad g 6), .int x1]) ++ List.replicate (4 - (lg_sl ([.ref (gad g 6), .int x1])).length) Slot.unset).toArray = ls at hl ⊢
  exact k_cArrays_fill6 g ⟨B.exec, B.bytes, B.returns, hml, findClass_of_methodNamed B.named, atoms_spec (ws := wq_J7_fill_53178) B.pre, B.notSynchronized, hK, fun q h => Or.inr h, hZ, cz_ok g⟩ st x1 _ _ ls ⟨hP, hD0.self, va_S.rf⟩ hl _ rfl
theorem r_cArrays_fill6 (st : CS) (x1 : Int32) : cArrays_fill6 st x1 = fillS 3 st 0 16 x1 := by
  show (cArrays_fill6_b5 (17) st x1 (nI 0) (nI 16)).getD st = _
  rw [u_cArrays_fill6 x1 _ 0 st (Nat.zero_le _) (by decide)]
  rfl
abbrev wq_X3_begin : List Cond := .code yX3_begin cX3_begin 1 none :: wAll
theorem yd_yX3_begin : yX3_begin.cls = RX3 ∧ yX3_begin.cls ≠ "java/lang/invoke/MethodHandle" ∧ yX3_begin.cls ≠ "java/lang/invoke/VarHandle" ∧ (parseMethodDescriptor yX3_begin.desc).map (fun d => d.parameters.length) = some 0 := by decide +kernel
abbrev rm_cEntries_begin : Room := { frames := 1, cells := 0, slots := 0, locals := 23 }
def cEntries_begin_b16 (st : CS) : CS := (sA (sI st 1 (0 : Int32)) 2 (upd (gA st 2) (0 : Int32).toNatClampNeg (0 : Int32)))
set_option maxHeartbeats 4000000 in
set_option maxRecDepth 100000 in
theorem k_cEntries_begin_b16 {p : Program} {l : Launch} {e : Env} {s : State} {m : MethodId} {args : Array Value} {below : List Frame} {meth : Method} {c : Code} {A : Nat → Prop} (g : Gm) (C : cX p s m args meth c A cX3_begin none 1 RX3 wq_X3_begin (gD g) vwCl (cty g) (cz g)) (st : CS) (H : Heap) (locs : List Loc) (ls : Array Slot) (hI : cI (gD g) vwCl (cw g) A s st H locs) (hl : lv_has ls 1 [(0, .ref (gad g 4))]) (X : CS) (hF : X = cEntries_begin_b16 st ) : W p l e rm_cEntries_begin s m args below meth c H locs 0 0 (MQ below (cQv (gD g) vwCl (cty g) (cw g) A X) args s 0 0 A) (F0 m 16 ls []) := by
  obtain ⟨hx, hb, hr, hml, hown, hts, hlocks, hK, hA, hZ, hzo⟩ := id C
  unfold cEntries_begin_b16 at hF
  refine lv_aload_n hx hb dX3_begin_16 rfl (lv_at hl 0 rfl) ?_
  refine va_get (D := gD g) (ci := 3) (C := RX3) (T := TX3) (N := 3) (v := .ref (gad g 5)) hx hb hts (fun w h => List.mem_cons_of_mem _ (isX30 w h)) hown hK hI.1 4 rfl rfl 0 (by decide) (hts _ (List.mem_cons_of_mem _ mw56)) (fun _ h9 => h9) rfl dX3_begin_17 ?_
  refine lv_iconst (v := (0 : Int32)) hx hb dX3_begin_20 (by decide) ?_
  refine lv_iconst (v := (0 : Int32)) hx hb dX3_begin_21 (by decide) ?_
  refine va_iast (f := (gA st 2)) hx hb hK hI.1 hI.2.1 hI.2.2 5 2 rfl rfl (by unfold vp_in; decide) dX3_begin_22 (fun H locs hP hD hS => ?_)
  have hI : cI (gD g) vwCl (cw g) A s (sA st 2 (upd (gA st 2) (0 : Int32).toNatClampNeg (0 : Int32))) H locs := ⟨hP, hD, hS⟩
  refine lv_aload_n hx hb dX3_begin_23 rfl (lv_at hl 0 rfl) ?_
  refine lv_iconst (v := (0 : Int32)) hx hb dX3_begin_24 (by decide) ?_
  refine va_put (D := gD g) (ci := 3) (C := RX3) (T := TX3) (N := 3) (v := .int (0 : Int32)) (ty := .int) hx hb hts (fun w h => List.mem_cons_of_mem _ (isX30 w h)) tyX3 tyX3_ok nmX3 hown hK hI.1 hI.2.1 hI.2.2 4 rfl rfl 2 (by decide) (hts _ (List.mem_cons_of_mem _ mw132)) (fun _ h9 => h9) rfl (by decide +kernel) rfl rfl (Nat.le_of_ble_eq_true rfl) dX3_begin_25 (fun H locs hP hD hS => ?_)
  have hI : cI (gD g) vwCl (cw g) A s (sA (sI st 1 (0 : Int32)) 2 (upd (gA st 2) (0 : Int32).toNatClampNeg (0 : Int32))) H locs := ⟨hP, hD, hS⟩
  exact cx_vret C hI hF dX3_begin_28
def cEntries_begin_b8 (st : CS) : CS := (cEntries_begin_b16 (cArrays_fill6 st (0 : Int32)) )
set_option maxHeartbeats 4000000 in
set_option maxRecDepth 100000 in
theorem k_cEntries_begin_b8 {p : Program} {l : Launch} {e : Env} {s : State} {m : MethodId} {args : Array Value} {below : List Frame} {meth : Method} {c : Code} {A : Nat → Prop} (g : Gm) (C : cX p s m args meth c A cX3_begin none 1 RX3 wq_X3_begin (gD g) vwCl (cty g) (cz g)) (st : CS) (H : Heap) (locs : List Loc) (ls : Array Slot) (hI : cI (gD g) vwCl (cw g) A s st H locs) (hl : lv_has ls 1 [(0, .ref (gad g 4))]) (X : CS) (hF : X = cEntries_begin_b8 st ) : W p l e rm_cEntries_begin s m args below meth c H locs 0 0 (MQ below (cQv (gD g) vwCl (cty g) (cw g) A X) args s 0 0 A) (F0 m 8 ls []) := by
  obtain ⟨hx, hb, hr, hml, hown, hts, hlocks, hK, hA, hZ, hzo⟩ := id C
  unfold cEntries_begin_b8 at hF
  refine lv_aload_n hx hb dX3_begin_8 rfl (lv_at hl 0 rfl) ?_
  refine va_get (D := gD g) (ci := 3) (C := RX3) (T := TX3) (N := 3) (v := .ref (gad g 6)) hx hb hts (fun w h => List.mem_cons_of_mem _ (isX30 w h)) hown hK hI.1 4 rfl rfl 1 (by decide) (hts _ (List.mem_cons_of_mem _ mw57)) (fun _ h9 => h9) rfl dX3_begin_9 ?_
  refine lv_iconst (v := (0 : Int32)) hx hb dX3_begin_12 (by decide) ?_
  refine cx_Sv (As := [.ref (gad g 6), .int (0 : Int32)]) (rest := []) C (c_cArrays_fill6 l g st (0 : Int32)) (va_cwS 2 hts (gd_S _ mw133 mw125 mw126 mw127) rfl rfl rfl yd_yJ7_fill_53178 ⟨Nat.le_of_ble_eq_true rfl, Nat.le_of_ble_eq_true rfl⟩) hI rfl hl.1 rfl (Nat.le_of_ble_eq_true rfl) dX3_begin_13 (fun H locs hI => ?_)
  exact k_cEntries_begin_b16 g C (cArrays_fill6 st (0 : Int32))  H locs ls hI (lv_sub hl [0] rfl) X hF
def cEntries_begin (st : CS) : CS := (cEntries_begin_b8 (cArrays_fill5 st (-1 : Int32)) )
set_option maxHeartbeats 4000000 in
set_option maxRecDepth 100000 in
theorem k_cEntries_begin {p : Program} {l : Launch} {e : Env} {s : State} {m : MethodId} {args : Array Value} {below : List Frame} {meth : Method} {c : Code} {A : Nat → Prop} (g : Gm) (C : cX p s m args meth c A cX3_begin none 1 RX3 wq_X3_begin (gD g) vwCl (cty g) (cz g)) (st : CS) (H : Heap) (locs : List Loc) (ls : Array Slot) (hI : cI (gD g) vwCl (cw g) A s st H locs) (hl : lv_has ls 1 [(0, .ref (gad g 4))]) (X : CS) (hF : X = cEntries_begin st) : W p l e rm_cEntries_begin s m args below meth c H locs 0 0 (MQ below (cQv (gD g) vwCl (cty g) (cw g) A X) args s 0 0 A) (F0 m 0 ls []) := by
  obtain ⟨hx, hb, hr, hml, hown, hts, hlocks, hK, hA, hZ, hzo⟩ := id C
  unfold cEntries_begin at hF
  refine lv_aload_n hx hb dX3_begin_0 rfl (lv_at hl 0 rfl) ?_
  refine va_get (D := gD g) (ci := 3) (C := RX3) (T := TX3) (N := 3) (v := .ref (gad g 5)) hx hb hts (fun w h => List.mem_cons_of_mem _ (isX30 w h)) hown hK hI.1 4 rfl rfl 0 (by decide) (hts _ (List.mem_cons_of_mem _ mw56)) (fun _ h9 => h9) rfl dX3_begin_1 ?_
  refine lv_iconst (v := (-1 : Int32)) hx hb dX3_begin_4 (by decide) ?_
  refine cx_Sv (As := [.ref (gad g 5), .int (-1 : Int32)]) (rest := []) C (c_cArrays_fill5 l g st (-1 : Int32)) (va_cwS 2 hts (gd_S _ mw133 mw125 mw126 mw127) rfl rfl rfl yd_yJ7_fill_53178 ⟨Nat.le_of_ble_eq_true rfl, Nat.le_of_ble_eq_true rfl⟩) hI rfl hl.1 rfl (Nat.le_of_ble_eq_true rfl) dX3_begin_5 (fun H locs hI => ?_)
  exact k_cEntries_begin_b8 g C (cArrays_fill5 st (-1 : Int32))  H locs ls hI (lv_sub hl [0] rfl) X hF
set_option maxHeartbeats 4000000 in
set_option maxRecDepth 100000 in
theorem c_cEntries_begin (l : Launch) (g : Gm) (st : CS) : Mv l yX3_begin wq_X3_begin rm_cEntries_begin (gD g) vwCl (cty g) (cw g) (cz g) [.ref (gad g 4)] st (cEntries_begin st) := by
  intro sz
  refine Met.ofW (cc := cX3_begin) (maxL := 1) (ret := none) (by decide) rfl ?_
  intro p e s m args below meth c s₁ B hml hv
  obtain ⟨rfl, hsz, hP, hK, hD0, hZ⟩ := hv
  subst hsz
  have hl := lv_entry ([.ref (gad g 4)]) (n := 1) (Nat.le_of_ble_eq_true rfl)
  rw [lg_entry_eq]
  generalize (lg_sl ([.ref (gad g 4)]) ++ List.replicate (1 - (lg_sl ([.ref (gad g 4)])).length) Slot.unset).toArray = ls at hl ⊢
  exact k_cEntries_begin g ⟨B.exec, B.bytes, B.returns, hml, findClass_of_methodNamed B.named, atoms_spec (ws := wq_X3_begin) B.pre, B.notSynchronized, hK, fun q h => Or.inr h, hZ, cz_ok g⟩ st  _ _ ls ⟨hP, hD0.self, va_S.rf⟩ hl _ rfl
abbrev wq_X3_numberOf : List Cond := .code yX3_numberOf cX3_numberOf 2 (some .int) :: wAll
theorem yd_yX3_numberOf : yX3_numberOf.cls = RX3 ∧ yX3_numberOf.cls ≠ "java/lang/invoke/MethodHandle" ∧ yX3_numberOf.cls ≠ "java/lang/invoke/VarHandle" ∧ (parseMethodDescriptor yX3_numberOf.desc).map (fun d => d.parameters.length) = some 1 := by decide +kernel
abbrev rm_cEntries_numberOf : Room := { frames := 0, cells := 0, slots := 0, locals := 0 }
def cEntries_numberOf (st : CS) (x1 : Int32) : Int32 := ((gA st 2) (x1 &&& (15 : Int32)).toNatClampNeg)
set_option maxHeartbeats 4000000 in
set_option maxRecDepth 100000 in
theorem k_cEntries_numberOf {p : Program} {l : Launch} {e : Env} {s : State} {m : MethodId} {args : Array Value} {below : List Frame} {meth : Method} {c : Code} {A : Nat → Prop} (g : Gm) (C : cX p s m args meth c A cX3_numberOf (some .int) 2 RX3 wq_X3_numberOf (gD g) vwCl (cty g) (cz g)) (st : CS) (x1 : Int32) (H : Heap) (locs : List Loc) (ls : Array Slot) (hI : cI (gD g) vwCl (cw g) A s st H locs) (hl : lv_has ls 2 [(0, .ref (gad g 4)), (1, .int x1)]) (X : Int32) (hF : X = cEntries_numberOf st x1) : W p l e rm_cEntries_numberOf s m args below meth c H locs 0 0 (MQ below (cQi (gD g) vwCl (cty g) (cw g) A st X) args s 0 0 A) (F0 m 0 ls []) := by
  obtain ⟨hx, hb, hr, hml, hown, hts, hlocks, hK, hA, hZ, hzo⟩ := id C
  unfold cEntries_numberOf at hF
  refine lv_aload_n hx hb dX3_numberOf_0 rfl (lv_at hl 0 rfl) ?_
  refine va_get (D := gD g) (ci := 3) (C := RX3) (T := TX3) (N := 3) (v := .ref (gad g 5)) hx hb hts (fun w h => List.mem_cons_of_mem _ (isX30 w h)) hown hK hI.1 4 rfl rfl 0 (by decide) (hts _ (List.mem_cons_of_mem _ mw56)) (fun _ h9 => h9) rfl dX3_numberOf_1 ?_
  refine lv_iload_n hx hb dX3_numberOf_4 rfl (lv_at hl 1 rfl) ?_
  refine lv_bipush (v := (15 : Int32)) hx hb dX3_numberOf_5 (by decide) ?_
  refine lv_iand hx hb dX3_numberOf_7 ?_
  refine va_iald (f := (gA st 2)) hx hb hK hI.1 5 2 rfl rfl (vin_and _ 4 rfl (by decide) (by decide)) dX3_numberOf_8 ?_
  exact cx_iret C hI rfl hF dX3_numberOf_9
set_option maxHeartbeats 4000000 in
set_option maxRecDepth 100000 in
theorem c_cEntries_numberOf (l : Launch) (g : Gm) (st : CS) (x1 : Int32) : Mi l yX3_numberOf wq_X3_numberOf rm_cEntries_numberOf (gD g) vwCl (cty g) (cw g) (cz g) [.ref (gad g 4), .int x1] st st (cEntries_numberOf st x1) := by
  intro sz
  refine Met.ofW (cc := cX3_numberOf) (maxL := 2) (ret := (some .int)) (by decide) rfl ?_
  intro p e s m args below meth c s₁ B hml hv
  obtain ⟨rfl, hsz, hP, hK, hD0, hZ⟩ := hv
  subst hsz
  have hl := lv_entry ([.ref (gad g 4), .int x1]) (n := 2) (Nat.le_of_ble_eq_true rfl)
  rw [lg_entry_eq]
  generalize (lg_sl ([.ref (gad g 4), .int x1]) ++ List.replicate (2 - (lg_sl ([.ref (gad g 4), .int x1])).length) Slot.unset).toArray = ls at hl ⊢
  exact k_cEntries_numberOf g ⟨B.exec, B.bytes, B.returns, hml, findClass_of_methodNamed B.named, atoms_spec (ws := wq_X3_numberOf) B.pre, B.notSynchronized, hK, fun q h => Or.inr h, hZ, cz_ok g⟩ st x1 _ _ ls ⟨hP, hD0.self, va_S.rf⟩ hl _ rfl
abbrev wq_X3_levelOf : List Cond := .code yX3_levelOf cX3_levelOf 2 (some .int) :: wAll
theorem yd_yX3_levelOf : yX3_levelOf.cls = RX3 ∧ yX3_levelOf.cls ≠ "java/lang/invoke/MethodHandle" ∧ yX3_levelOf.cls ≠ "java/lang/invoke/VarHandle" ∧ (parseMethodDescriptor yX3_levelOf.desc).map (fun d => d.parameters.length) = some 1 := by decide +kernel
abbrev rm_cEntries_levelOf : Room := { frames := 0, cells := 0, slots := 0, locals := 0 }
def cEntries_levelOf (st : CS) (x1 : Int32) : Int32 := ((gA st 3) (x1 &&& (15 : Int32)).toNatClampNeg)
set_option maxHeartbeats 4000000 in
set_option maxRecDepth 100000 in
theorem k_cEntries_levelOf {p : Program} {l : Launch} {e : Env} {s : State} {m : MethodId} {args : Array Value} {below : List Frame} {meth : Method} {c : Code} {A : Nat → Prop} (g : Gm) (C : cX p s m args meth c A cX3_levelOf (some .int) 2 RX3 wq_X3_levelOf (gD g) vwCl (cty g) (cz g)) (st : CS) (x1 : Int32) (H : Heap) (locs : List Loc) (ls : Array Slot) (hI : cI (gD g) vwCl (cw g) A s st H locs) (hl : lv_has ls 2 [(0, .ref (gad g 4)), (1, .int x1)]) (X : Int32) (hF : X = cEntries_levelOf st x1) : W p l e rm_cEntries_levelOf s m args below meth c H locs 0 0 (MQ below (cQi (gD g) vwCl (cty g) (cw g) A st X) args s 0 0 A) (F0 m 0 ls []) := by
  obtain ⟨hx, hb, hr, hml, hown, hts, hlocks, hK, hA, hZ, hzo⟩ := id C
  unfold cEntries_levelOf at hF
  refine lv_aload_n hx hb dX3_levelOf_0 rfl (lv_at hl 0 rfl) ?_
  refine va_get (D := gD g) (ci := 3) (C := RX3) (T := TX3) (N := 3) (v := .ref (gad g 6)) hx hb hts (fun w h => List.mem_cons_of_mem _ (isX30 w h)) hown hK hI.1 4 rfl rfl 1 (by decide) (hts _ (List.mem_cons_of_mem _ mw57)) (fun _ h9 => h9) rfl dX3_levelOf_1 ?_
  refine lv_iload_n hx hb dX3_levelOf_4 rfl (lv_at hl 1 rfl) ?_
  refine lv_bipush (v := (15 : Int32)) hx hb dX3_levelOf_5 (by decide) ?_
  refine lv_iand hx hb dX3_levelOf_7 ?_
  refine va_iald (f := (gA st 3)) hx hb hK hI.1 6 3 rfl rfl (vin_and _ 4 rfl (by decide) (by decide)) dX3_levelOf_8 ?_
  exact cx_iret C hI rfl hF dX3_levelOf_9
set_option maxHeartbeats 4000000 in
set_option maxRecDepth 100000 in
theorem c_cEntries_levelOf (l : Launch) (g : Gm) (st : CS) (x1 : Int32) : Mi l yX3_levelOf wq_X3_levelOf rm_cEntries_levelOf (gD g) vwCl (cty g) (cw g) (cz g) [.ref (gad g 4), .int x1] st st (cEntries_levelOf st x1) := by
  intro sz
  refine Met.ofW (cc := cX3_levelOf) (maxL := 2) (ret := (some .int)) (by decide) rfl ?_
  intro p e s m args below meth c s₁ B hml hv
  obtain ⟨rfl, hsz, hP, hK, hD0, hZ⟩ := hv
  subst hsz
  have hl := lv_entry ([.ref (gad g 4), .int x1]) (n := 2) (Nat.le_of_ble_eq_true rfl)
  rw [lg_entry_eq]
  generalize (lg_sl ([.ref (gad g 4), .int x1]) ++ List.replicate (2 - (lg_sl ([.ref (gad g 4), .int x1])).length) Slot.unset).toArray = ls at hl ⊢
  exact k_cEntries_levelOf g ⟨B.exec, B.bytes, B.returns, hml, findClass_of_methodNamed B.named, atoms_spec (ws := wq_X3_levelOf) B.pre, B.notSynchronized, hK, fun q h => Or.inr h, hZ, cz_ok g⟩ st x1 _ _ ls ⟨hP, hD0.self, va_S.rf⟩ hl _ rfl
abbrev wq_X3_withNumber : List Cond := .code yX3_withNumber cX3_withNumber 3 (some .int) :: wAll
theorem yd_yX3_withNumber : yX3_withNumber.cls = RX3 ∧ yX3_withNumber.cls ≠ "java/lang/invoke/MethodHandle" ∧ yX3_withNumber.cls ≠ "java/lang/invoke/VarHandle" ∧ (parseMethodDescriptor yX3_withNumber.desc).map (fun d => d.parameters.length) = some 1 := by decide +kernel
abbrev rm_cEntries_withNumber : Room := { frames := 0, cells := 0, slots := 0, locals := 0 }
def cEntries_withNumber_b2 : Nat → CS → Int32 → Int32 → Option (Int32)
  | 0, _, _, _ => none
  | n + 1, st, x1, x2 => (if ((16 : Int32) ≤ x2) then (some (-1 : Int32)) else (if (((gA st 2) x2.toNatClampNeg) = x1) then (some x2) else (cEntries_withNumber_b2 n st x1 (x2 + (1 : Int32)))))
set_option maxHeartbeats 4000000 in
set_option maxRecDepth 100000 in
theorem k_cEntries_withNumber_b2 {p : Program} {l : Launch} {e : Env} {s : State} {m : MethodId} {args : Array Value} {below : List Frame} {meth : Method} {c : Code} {A : Nat → Prop} (g : Gm) (C : cX p s m args meth c A cX3_withNumber (some .int) 3 RX3 wq_X3_withNumber (gD g) vwCl (cty g) (cz g)) : ∀ (n : Nat) (st : CS) (x1 : Int32) (x2 : Int32) (H : Heap) (locs : List Loc) (ls : Array Slot), cI (gD g) vwCl (cw g) A s st H locs → lv_has ls 3 [(0, .ref (gad g 4)), (1, .int x1), (2, .int x2)] → up_ok 16 x2 → ∀ (X : Int32), some X = cEntries_withNumber_b2 n st x1 x2 → W p l e rm_cEntries_withNumber s m args below meth c H locs 0 0 (MQ below (cQi (gD g) vwCl (cty g) (cw g) A st X) args s 0 0 A) (F0 m 2 ls []) := by
  obtain ⟨hx, hb, hr, hml, hown, hts, hlocks, hK, hA, hZ, hzo⟩ := id C
  intro n
  induction n with
  | zero => intro st x1 x2 H locs ls hI hl hf X hF; exact absurd hF (by simp [cEntries_withNumber_b2])
  | succ n ih =>
    intro st x1 x2 H locs ls hI hl hf X hF
    rw [cEntries_withNumber_b2] at hF
    refine lv_iload_n hx hb dX3_withNumber_2 rfl (lv_at hl 2 rfl) ?_
    refine lv_bipush (v := (16 : Int32)) hx hb dX3_withNumber_3 (by decide) ?_
    refine lv_icmp_ge (tgt := 26) hx hb dX3_withNumber_5 (by decide) (fun c_5 => ?_) (fun c_5 => ?_)
    · have hF := hF.trans (if_pos c_5)
      refine lv_iconst (v := (-1 : Int32)) hx hb dX3_withNumber_26 (by decide) ?_
      have hF := Option.some.inj hF
      exact cx_iret C hI rfl hF dX3_withNumber_27
    · have hF := hF.trans (if_neg c_5)
      refine lv_aload_n hx hb dX3_withNumber_8 rfl (lv_at hl 0 rfl) ?_
      refine va_get (D := gD g) (ci := 3) (C := RX3) (T := TX3) (N := 3) (v := .ref (gad g 5)) hx hb hts (fun w h => List.mem_cons_of_mem _ (isX30 w h)) hown hK hI.1 4 rfl rfl 0 (by decide) (hts _ (List.mem_cons_of_mem _ mw56)) (fun _ h9 => h9) rfl dX3_withNumber_9 ?_
      refine lv_iload_n hx hb dX3_withNumber_12 rfl (lv_at hl 2 rfl) ?_
      refine va_iald (f := (gA st 2)) hx hb hK hI.1 5 2 rfl rfl (up_in (by decide) rfl hf c_5) dX3_withNumber_13 ?_
      refine lv_iload_n hx hb dX3_withNumber_14 rfl (lv_at hl 1 rfl) ?_
      refine lv_icmp_ne (tgt := 20) hx hb dX3_withNumber_15 (by decide) (fun c_15 => ?_) (fun c_15 => ?_)
      · have hF := hF.trans (if_neg c_15)
        refine lv_iinc (v := (x2 + (1 : Int32))) (lv' := [(2, .int (x2 + (1 : Int32))), (0, .ref (gad g 4)), (1, .int x1)]) hx hb dX3_withNumber_20 hl (k := 2) rfl rfl (by decide) rfl (fun ls hl => ?_)
        refine lv_goto (tgt := 2) hx hb dX3_withNumber_23 (by decide) ?_
        exact ih st x1 (x2 + (1 : Int32)) H locs ls hI (lv_sub hl [1, 2, 0] rfl) (up_st (by decide) rfl hf c_5) X hF
      · have hF := hF.trans (if_pos c_15)
        refine lv_iload_n hx hb dX3_withNumber_18 rfl (lv_at hl 2 rfl) ?_
        have hF := Option.some.inj hF
        exact cx_iret C hI rfl hF dX3_withNumber_19
def cEntries_withNumber_b2t (st : CS) (x1 : Int32) (x2 : Int32) : Int32 := (cEntries_withNumber_b2 (17) st x1 x2).getD 0
theorem e_cEntries_withNumber (st : CS) (x1 : Int32) : ∀ (n j : Nat), j ≤ 16 → 16 - j < n → ∃ r, cEntries_withNumber_b2 n st x1 (nI j) = some r := by
  intro n
  induction n with
  | zero => intro j h1 h2; omega
  | succ n ih =>
    intro j h1 h2
    rw [cEntries_withNumber_b2]
    rcases Nat.lt_or_ge j 16 with q | q
    · rw [if_neg (show ¬ (16 : Int32) ≤ nI j from nI_ge q (by decide)), show nI j + (1 : Int32) = nI (j + 1) from nI_1 j]
      split
      · first | exact ⟨_, rfl⟩ | exact ih (j + 1) q (by omega)
      · first | exact ⟨_, rfl⟩ | exact ih (j + 1) q (by omega)
    · have e : j = 16 := by omega
      subst e
      rw [if_pos (show (16 : Int32) ≤ nI 16 by decide)]
      exact ⟨_, rfl⟩
theorem t_cEntries_withNumber_b2 (st : CS) (x1 x2 : Int32) (hf : up_ok 16 x2) : some (cEntries_withNumber_b2t st x1 x2) = cEntries_withNumber_b2 (17) st x1 x2 := by
  obtain ⟨j, hj, rfl⟩ := hf
  exact some_getD (e_cEntries_withNumber st x1 _ j hj (by omega))
set_option maxHeartbeats 4000000 in
set_option maxRecDepth 100000 in
theorem k_cEntries_withNumber_b2t {p : Program} {l : Launch} {e : Env} {s : State} {m : MethodId} {args : Array Value} {below : List Frame} {meth : Method} {c : Code} {A : Nat → Prop} (g : Gm) (C : cX p s m args meth c A cX3_withNumber (some .int) 3 RX3 wq_X3_withNumber (gD g) vwCl (cty g) (cz g)) (st : CS) (x1 : Int32) (x2 : Int32) (H : Heap) (locs : List Loc) (ls : Array Slot) (hI : cI (gD g) vwCl (cw g) A s st H locs) (hl : lv_has ls 3 [(0, .ref (gad g 4)), (1, .int x1), (2, .int x2)]) (hf : up_ok 16 x2) (X : Int32) (hF : X = cEntries_withNumber_b2t st x1 x2) : W p l e rm_cEntries_withNumber s m args below meth c H locs 0 0 (MQ below (cQi (gD g) vwCl (cty g) (cw g) A st X) args s 0 0 A) (F0 m 2 ls []) := by
  refine k_cEntries_withNumber_b2 g C (17) st x1 x2 H locs ls hI hl hf X ?_
  rw [hF]
  exact t_cEntries_withNumber_b2 st x1 x2 hf
def cEntries_withNumber (st : CS) (x1 : Int32) : Int32 := (cEntries_withNumber_b2t st x1 (0 : Int32))
set_option maxHeartbeats 4000000 in
set_option maxRecDepth 100000 in
theorem k_cEntries_withNumber {p : Program} {l : Launch} {e : Env} {s : State} {m : MethodId} {args : Array Value} {below : List Frame} {meth : Method} {c : Code} {A : Nat → Prop} (g : Gm) (C : cX p s m args meth c A cX3_withNumber (some .int) 3 RX3 wq_X3_withNumber (gD g) vwCl (cty g) (cz g)) (st : CS) (x1 : Int32) (H : Heap) (locs : List Loc) (ls : Array Slot) (hI : cI (gD g) vwCl (cw g) A s st H locs) (hl : lv_has ls 3 [(0, .ref (gad g 4)), (1, .int x1)]) (X : Int32) (hF : X = cEntries_withNumber st x1) : W p l e rm_cEntries_withNumber s m args below meth c H locs 0 0 (MQ below (cQi (gD g) vwCl (cty g) (cw g) A st X) args s 0 0 A) (F0 m 0 ls []) := by
  obtain ⟨hx, hb, hr, hml, hown, hts, hlocks, hK, hA, hZ, hzo⟩ := id C
  unfold cEntries_withNumber at hF
  refine lv_iconst (v := (0 : Int32)) hx hb dX3_withNumber_0 (by decide) ?_
  refine lv_istore_n (lv' := [(2, .int (0 : Int32)), (0, .ref (gad g 4)), (1, .int x1)]) hx hb dX3_withNumber_1 rfl hl (by decide) rfl (fun ls hl => ?_)
  exact k_cEntries_withNumber_b2t g C st x1 (0 : Int32) H locs ls hI (lv_sub hl [1, 2, 0] rfl) ⟨0, Nat.zero_le _, rfl⟩ X hF
set_option maxHeartbeats 4000000 in
set_option maxRecDepth 100000 in
theorem c_cEntries_withNumber (l : Launch) (g : Gm) (st : CS) (x1 : Int32) : Mi l yX3_withNumber wq_X3_withNumber rm_cEntries_withNumber (gD g) vwCl (cty g) (cw g) (cz g) [.ref (gad g 4), .int x1] st st (cEntries_withNumber st x1) := by
  intro sz
  refine Met.ofW (cc := cX3_withNumber) (maxL := 3) (ret := (some .int)) (by decide) rfl ?_
  intro p e s m args below meth c s₁ B hml hv
  obtain ⟨rfl, hsz, hP, hK, hD0, hZ⟩ := hv
  subst hsz
  have hl := lv_entry ([.ref (gad g 4), .int x1]) (n := 3) (Nat.le_of_ble_eq_true rfl)
  rw [lg_entry_eq]
  generalize (lg_sl ([.ref (gad g 4), .int x1]) ++ List.replicate (3 - (lg_sl ([.ref (gad g 4), .int x1])).length) Slot.unset).toArray = ls at hl ⊢
  exact k_cEntries_withNumber g ⟨B.exec, B.bytes, B.returns, hml, findClass_of_methodNamed B.named, atoms_spec (ws := wq_X3_withNumber) B.pre, B.notSynchronized, hK, fun q h => Or.inr h, hZ, cz_ok g⟩ st x1 _ _ ls ⟨hP, hD0.self, va_S.rf⟩ hl _ rfl
abbrev wq_X3_letsUser : List Cond := .code yX3_letsUser cX3_letsUser 3 (some .boolean) :: wAll
theorem yd_yX3_letsUser : yX3_letsUser.cls = RX3 ∧ yX3_letsUser.cls ≠ "java/lang/invoke/MethodHandle" ∧ yX3_letsUser.cls ≠ "java/lang/invoke/VarHandle" ∧ (parseMethodDescriptor yX3_letsUser.desc).map (fun d => d.parameters.length) = some 2 := by decide +kernel
abbrev rm_cEntries_letsUser : Room := { frames := 0, cells := 0, slots := 0, locals := 0 }
def cEntries_letsUser_b50 (st : CS) : Int32 := (1 : Int32)
set_option maxHeartbeats 4000000 in
set_option maxRecDepth 100000 in
theorem k_cEntries_letsUser_b50 {p : Program} {l : Launch} {e : Env} {s : State} {m : MethodId} {args : Array Value} {below : List Frame} {meth : Method} {c : Code} {A : Nat → Prop} (g : Gm) (C : cX p s m args meth c A cX3_letsUser (some .boolean) 3 RX3 wq_X3_letsUser (gD g) vwCl (cty g) (cz g)) (st : CS) (H : Heap) (locs : List Loc) (ls : Array Slot) (hI : cI (gD g) vwCl (cw g) A s st H locs) (hl : lv_has ls 3 [(0, .ref (gad g 4))]) (X : Int32) (hF : X = cEntries_letsUser_b50 st ) : W p l e rm_cEntries_letsUser s m args below meth c H locs 0 0 (MQ below (cQi (gD g) vwCl (cty g) (cw g) A st X) args s 0 0 A) (F0 m 50 ls []) := by
  obtain ⟨hx, hb, hr, hml, hown, hts, hlocks, hK, hA, hZ, hzo⟩ := id C
  unfold cEntries_letsUser_b50 at hF
  refine lv_iconst (v := (1 : Int32)) hx hb dX3_letsUser_50 (by decide) ?_
  refine lv_goto (tgt := 55) hx hb dX3_letsUser_51 (by decide) ?_
  exact cx_zret C hI rfl hF rfl dX3_letsUser_55
def cEntries_letsUser (st : CS) (x1 : Int32) (x2 : Int32) : Int32 := (if ((gA st 3) (x1 &&& (15 : Int32)).toNatClampNeg) = (0 : Int32) then (1 : Int32) else (if ((gA st 3) (x1 &&& (15 : Int32)).toNatClampNeg) = (1 : Int32) then (if (x2 = 0) then (cEntries_letsUser_b50 st ) else (if ((gI st 1) = (1 : Int32)) then (cEntries_letsUser_b50 st ) else (0 : Int32))) else (if (x2 = 0) then (if ((gI st 1) = (1 : Int32)) then (1 : Int32) else (0 : Int32)) else (0 : Int32))))
set_option maxHeartbeats 4000000 in
set_option maxRecDepth 100000 in
theorem k_cEntries_letsUser {p : Program} {l : Launch} {e : Env} {s : State} {m : MethodId} {args : Array Value} {below : List Frame} {meth : Method} {c : Code} {A : Nat → Prop} (g : Gm) (C : cX p s m args meth c A cX3_letsUser (some .boolean) 3 RX3 wq_X3_letsUser (gD g) vwCl (cty g) (cz g)) (st : CS) (x1 : Int32) (x2 : Int32) (H : Heap) (locs : List Loc) (ls : Array Slot) (hI : cI (gD g) vwCl (cw g) A s st H locs) (hl : lv_has ls 3 [(0, .ref (gad g 4)), (1, .int x1), (2, .int x2)]) (X : Int32) (hF : X = cEntries_letsUser st x1 x2) : W p l e rm_cEntries_letsUser s m args below meth c H locs 0 0 (MQ below (cQi (gD g) vwCl (cty g) (cw g) A st X) args s 0 0 A) (F0 m 0 ls []) := by
  obtain ⟨hx, hb, hr, hml, hown, hts, hlocks, hK, hA, hZ, hzo⟩ := id C
  unfold cEntries_letsUser at hF
  refine lv_aload_n hx hb dX3_letsUser_0 rfl (lv_at hl 0 rfl) ?_
  refine va_get (D := gD g) (ci := 3) (C := RX3) (T := TX3) (N := 3) (v := .ref (gad g 6)) hx hb hts (fun w h => List.mem_cons_of_mem _ (isX30 w h)) hown hK hI.1 4 rfl rfl 1 (by decide) (hts _ (List.mem_cons_of_mem _ mw57)) (fun _ h9 => h9) rfl dX3_letsUser_1 ?_
  refine lv_iload_n hx hb dX3_letsUser_4 rfl (lv_at hl 1 rfl) ?_
  refine lv_bipush (v := (15 : Int32)) hx hb dX3_letsUser_5 (by decide) ?_
  refine lv_iand hx hb dX3_letsUser_7 ?_
  refine va_iald (f := (gA st 3)) hx hb hK hI.1 6 3 rfl rfl (vin_and _ 4 rfl (by decide) (by decide)) dX3_letsUser_8 ?_
  by_cases c_9_0 : ((gA st 3) (x1 &&& (15 : Int32)).toNatClampNeg) = (0 : Int32)
  · have hF := hF.trans (if_pos c_9_0)
    refine lv_lookup (off := 27) (tgt := 36) hx hb dX3_letsUser_9 (by decide) (by rw [c_9_0]; rfl) (by decide) ?_
    refine lv_iconst (v := (1 : Int32)) hx hb dX3_letsUser_36 (by decide) ?_
    exact cx_zret C hI rfl hF rfl dX3_letsUser_37
  · have hF := hF.trans (if_neg c_9_0)
    by_cases c_9_1 : ((gA st 3) (x1 &&& (15 : Int32)).toNatClampNeg) = (1 : Int32)
    · have hF := hF.trans (if_pos c_9_1)
      refine lv_lookup (off := 29) (tgt := 38) hx hb dX3_letsUser_9 (by decide) (by rw [c_9_1]; rfl) (by decide) ?_
      refine lv_iload_n hx hb dX3_letsUser_38 rfl (lv_at hl 2 rfl) ?_
      refine lv_if_eq (tgt := 50) hx hb dX3_letsUser_39 (by decide) (fun c_39 => ?_) (fun c_39 => ?_)
      · have hF := hF.trans (if_pos c_39)
        exact k_cEntries_letsUser_b50 g C st  H locs ls hI (lv_sub hl [0] rfl) X hF
      · have hF := hF.trans (if_neg c_39)
        refine lv_aload_n hx hb dX3_letsUser_42 rfl (lv_at hl 0 rfl) ?_
        refine va_get (D := gD g) (ci := 3) (C := RX3) (T := TX3) (N := 3) (v := .int (gI st 1)) hx hb hts (fun w h => List.mem_cons_of_mem _ (isX30 w h)) hown hK hI.1 4 rfl rfl 2 (by decide) (hts _ (List.mem_cons_of_mem _ mw132)) (fun _ h9 => h9) rfl dX3_letsUser_43 ?_
        refine lv_iconst (v := (1 : Int32)) hx hb dX3_letsUser_46 (by decide) ?_
        refine lv_icmp_ne (tgt := 54) hx hb dX3_letsUser_47 (by decide) (fun c_47 => ?_) (fun c_47 => ?_)
        · have hF := hF.trans (if_neg c_47)
          refine lv_iconst (v := (0 : Int32)) hx hb dX3_letsUser_54 (by decide) ?_
          exact cx_zret C hI rfl hF rfl dX3_letsUser_55
        · have hF := hF.trans (if_pos c_47)
          exact k_cEntries_letsUser_b50 g C st  H locs ls hI (lv_sub hl [0] rfl) X hF
    · have hF := hF.trans (if_neg c_9_1)
      refine lv_lookup (off := 47) (tgt := 56) hx hb dX3_letsUser_9 (by decide) (by show Op.lookupswitch.offset [(0, 27), (1, 29)] 47 _ = _; rw [lv_osw c_9_0 (by decide), lv_osw c_9_1 (by decide)]; rfl) (by decide) ?_
      refine lv_iload_n hx hb dX3_letsUser_56 rfl (lv_at hl 2 rfl) ?_
      refine lv_if_ne (tgt := 72) hx hb dX3_letsUser_57 (by decide) (fun c_57 => ?_) (fun c_57 => ?_)
      · have hF := hF.trans (if_neg c_57)
        refine lv_iconst (v := (0 : Int32)) hx hb dX3_letsUser_72 (by decide) ?_
        exact cx_zret C hI rfl hF rfl dX3_letsUser_73
      · have hF := hF.trans (if_pos c_57)
        refine lv_aload_n hx hb dX3_letsUser_60 rfl (lv_at hl 0 rfl) ?_
        refine va_get (D := gD g) (ci := 3) (C := RX3) (T := TX3) (N := 3) (v := .int (gI st 1)) hx hb hts (fun w h => List.mem_cons_of_mem _ (isX30 w h)) hown hK hI.1 4 rfl rfl 2 (by decide) (hts _ (List.mem_cons_of_mem _ mw132)) (fun _ h9 => h9) rfl dX3_letsUser_61 ?_
        refine lv_iconst (v := (1 : Int32)) hx hb dX3_letsUser_64 (by decide) ?_
        refine lv_icmp_ne (tgt := 72) hx hb dX3_letsUser_65 (by decide) (fun c_65 => ?_) (fun c_65 => ?_)
        · have hF := hF.trans (if_neg c_65)
          refine lv_iconst (v := (0 : Int32)) hx hb dX3_letsUser_72 (by decide) ?_
          exact cx_zret C hI rfl hF rfl dX3_letsUser_73
        · have hF := hF.trans (if_pos c_65)
          refine lv_iconst (v := (1 : Int32)) hx hb dX3_letsUser_68 (by decide) ?_
          refine lv_goto (tgt := 73) hx hb dX3_letsUser_69 (by decide) ?_
          exact cx_zret C hI rfl hF rfl dX3_letsUser_73
set_option maxHeartbeats 4000000 in
set_option maxRecDepth 100000 in
theorem c_cEntries_letsUser (l : Launch) (g : Gm) (st : CS) (x1 : Int32) (x2 : Int32) : Mi l yX3_letsUser wq_X3_letsUser rm_cEntries_letsUser (gD g) vwCl (cty g) (cw g) (cz g) [.ref (gad g 4), .int x1, .int x2] st st (cEntries_letsUser st x1 x2) := by
  intro sz
  refine Met.ofW (cc := cX3_letsUser) (maxL := 3) (ret := (some .boolean)) (by decide) rfl ?_
  intro p e s m args below meth c s₁ B hml hv
  obtain ⟨rfl, hsz, hP, hK, hD0, hZ⟩ := hv
  subst hsz
  have hl := lv_entry ([.ref (gad g 4), .int x1, .int x2]) (n := 3) (Nat.le_of_ble_eq_true rfl)
  rw [lg_entry_eq]
  generalize (lg_sl ([.ref (gad g 4), .int x1, .int x2]) ++ List.replicate (3 - (lg_sl ([.ref (gad g 4), .int x1, .int x2])).length) Slot.unset).toArray = ls at hl ⊢
  exact k_cEntries_letsUser g ⟨B.exec, B.bytes, B.returns, hml, findClass_of_methodNamed B.named, atoms_spec (ws := wq_X3_letsUser) B.pre, B.notSynchronized, hK, fun q h => Or.inr h, hZ, cz_ok g⟩ st x1 x2 _ _ ls ⟨hP, hD0.self, va_S.rf⟩ hl _ rfl
abbrev wq_X3_tell : List Cond := .code yX3_tell cX3_tell 3 none :: wAll
theorem yd_yX3_tell : yX3_tell.cls = RX3 ∧ yX3_tell.cls ≠ "java/lang/invoke/MethodHandle" ∧ yX3_tell.cls ≠ "java/lang/invoke/VarHandle" ∧ (parseMethodDescriptor yX3_tell.desc).map (fun d => d.parameters.length) = some 1 := by decide +kernel
abbrev rm_cEntries_tell : Room := { frames := 0, cells := 0, slots := 0, locals := 0 }
def cEntries_tell (st : CS) (x1 : Int32) : CS := (if ((x1 &&& (16 : Int32)) = 0) then (sA (sA st 3 (upd (gA st 3) (x1 &&& (15 : Int32)).toNatClampNeg ((ushr x1 (8 : Int32)) &&& (3 : Int32)))) 2 (upd (gA st 2) (x1 &&& (15 : Int32)).toNatClampNeg (((ushr x1 (12 : Int32)) &&& (2047 : Int32)) ||| (((ushr x1 (10 : Int32)) &&& (3 : Int32)) <<< ((11 : Int32) &&& 31))))) else (sA (sA st 3 (upd (gA st 3) (x1 &&& (15 : Int32)).toNatClampNeg ((ushr x1 (8 : Int32)) &&& (3 : Int32)))) 2 (upd (gA st 2) (x1 &&& (15 : Int32)).toNatClampNeg (-1 : Int32))))
set_option maxHeartbeats 4000000 in
set_option maxRecDepth 100000 in
theorem k_cEntries_tell {p : Program} {l : Launch} {e : Env} {s : State} {m : MethodId} {args : Array Value} {below : List Frame} {meth : Method} {c : Code} {A : Nat → Prop} (g : Gm) (C : cX p s m args meth c A cX3_tell none 3 RX3 wq_X3_tell (gD g) vwCl (cty g) (cz g)) (st : CS) (x1 : Int32) (H : Heap) (locs : List Loc) (ls : Array Slot) (hI : cI (gD g) vwCl (cw g) A s st H locs) (hl : lv_has ls 3 [(0, .ref (gad g 4)), (1, .int x1)]) (X : CS) (hF : X = cEntries_tell st x1) : W p l e rm_cEntries_tell s m args below meth c H locs 0 0 (MQ below (cQv (gD g) vwCl (cty g) (cw g) A X) args s 0 0 A) (F0 m 0 ls []) := by
  obtain ⟨hx, hb, hr, hml, hown, hts, hlocks, hK, hA, hZ, hzo⟩ := id C
  unfold cEntries_tell at hF
  refine lv_iload_n hx hb dX3_tell_0 rfl (lv_at hl 1 rfl) ?_
  refine lv_bipush (v := (15 : Int32)) hx hb dX3_tell_1 (by decide) ?_
  refine lv_iand hx hb dX3_tell_3 ?_
  refine lv_istore_n (lv' := [(2, .int (x1 &&& (15 : Int32))), (0, .ref (gad g 4)), (1, .int x1)]) hx hb dX3_tell_4 rfl hl (by decide) rfl (fun ls hl => ?_)
  refine lv_aload_n hx hb dX3_tell_5 rfl (lv_at hl 1 rfl) ?_
  refine va_get (D := gD g) (ci := 3) (C := RX3) (T := TX3) (N := 3) (v := .ref (gad g 6)) hx hb hts (fun w h => List.mem_cons_of_mem _ (isX30 w h)) hown hK hI.1 4 rfl rfl 1 (by decide) (hts _ (List.mem_cons_of_mem _ mw57)) (fun _ h9 => h9) rfl dX3_tell_6 ?_
  refine lv_iload_n hx hb dX3_tell_9 rfl (lv_at hl 0 rfl) ?_
  refine lv_iload_n hx hb dX3_tell_10 rfl (lv_at hl 2 rfl) ?_
  refine lv_bipush (v := (8 : Int32)) hx hb dX3_tell_11 (by decide) ?_
  refine lv_iushr (v := (ushr x1 (8 : Int32))) hx hb dX3_tell_13 rfl ?_
  refine lv_iconst (v := (3 : Int32)) hx hb dX3_tell_14 (by decide) ?_
  refine lv_iand hx hb dX3_tell_15 ?_
  refine va_iast (f := (gA st 3)) hx hb hK hI.1 hI.2.1 hI.2.2 6 3 rfl rfl (vin_and _ 4 rfl (by decide) (by decide)) dX3_tell_16 (fun H locs hP hD hS => ?_)
  have hI : cI (gD g) vwCl (cw g) A s (sA st 3 (upd (gA st 3) (x1 &&& (15 : Int32)).toNatClampNeg ((ushr x1 (8 : Int32)) &&& (3 : Int32)))) H locs := ⟨hP, hD, hS⟩
  refine lv_iload_n hx hb dX3_tell_17 rfl (lv_at hl 2 rfl) ?_
  refine lv_bipush (v := (16 : Int32)) hx hb dX3_tell_18 (by decide) ?_
  refine lv_iand hx hb dX3_tell_20 ?_
  refine lv_if_eq (tgt := 34) hx hb dX3_tell_21 (by decide) (fun c_21 => ?_) (fun c_21 => ?_)
  · have hF := hF.trans (if_pos c_21)
    refine lv_aload_n hx hb dX3_tell_34 rfl (lv_at hl 1 rfl) ?_
    refine va_get (D := gD g) (ci := 3) (C := RX3) (T := TX3) (N := 3) (v := .ref (gad g 5)) hx hb hts (fun w h => List.mem_cons_of_mem _ (isX30 w h)) hown hK hI.1 4 rfl rfl 0 (by decide) (hts _ (List.mem_cons_of_mem _ mw56)) (fun _ h9 => h9) rfl dX3_tell_35 ?_
    refine lv_iload_n hx hb dX3_tell_38 rfl (lv_at hl 0 rfl) ?_
    refine lv_iload_n hx hb dX3_tell_39 rfl (lv_at hl 2 rfl) ?_
    refine lv_bipush (v := (12 : Int32)) hx hb dX3_tell_40 (by decide) ?_
    refine lv_iushr (v := (ushr x1 (12 : Int32))) hx hb dX3_tell_42 rfl ?_
    refine lv_sipush (v := (2047 : Int32)) hx hb dX3_tell_43 (by decide) ?_
    refine lv_iand hx hb dX3_tell_46 ?_
    refine lv_iload_n hx hb dX3_tell_47 rfl (lv_at hl 2 rfl) ?_
    refine lv_bipush (v := (10 : Int32)) hx hb dX3_tell_48 (by decide) ?_
    refine lv_iushr (v := (ushr x1 (10 : Int32))) hx hb dX3_tell_50 rfl ?_
    refine lv_iconst (v := (3 : Int32)) hx hb dX3_tell_51 (by decide) ?_
    refine lv_iand hx hb dX3_tell_52 ?_
    refine lv_bipush (v := (11 : Int32)) hx hb dX3_tell_53 (by decide) ?_
    refine lv_ishl hx hb dX3_tell_55 ?_
    refine lv_ior hx hb dX3_tell_56 ?_
    refine va_iast (f := (gA st 2)) hx hb hK hI.1 hI.2.1 hI.2.2 5 2 rfl rfl (vin_and _ 4 rfl (by decide) (by decide)) dX3_tell_57 (fun H locs hP hD hS => ?_)
    have hI : cI (gD g) vwCl (cw g) A s (sA (sA st 3 (upd (gA st 3) (x1 &&& (15 : Int32)).toNatClampNeg ((ushr x1 (8 : Int32)) &&& (3 : Int32)))) 2 (upd (gA st 2) (x1 &&& (15 : Int32)).toNatClampNeg (((ushr x1 (12 : Int32)) &&& (2047 : Int32)) ||| (((ushr x1 (10 : Int32)) &&& (3 : Int32)) <<< ((11 : Int32) &&& 31))))) H locs := ⟨hP, hD, hS⟩
    exact cx_vret C hI hF dX3_tell_58
  · have hF := hF.trans (if_neg c_21)
    refine lv_aload_n hx hb dX3_tell_24 rfl (lv_at hl 1 rfl) ?_
    refine va_get (D := gD g) (ci := 3) (C := RX3) (T := TX3) (N := 3) (v := .ref (gad g 5)) hx hb hts (fun w h => List.mem_cons_of_mem _ (isX30 w h)) hown hK hI.1 4 rfl rfl 0 (by decide) (hts _ (List.mem_cons_of_mem _ mw56)) (fun _ h9 => h9) rfl dX3_tell_25 ?_
    refine lv_iload_n hx hb dX3_tell_28 rfl (lv_at hl 0 rfl) ?_
    refine lv_iconst (v := (-1 : Int32)) hx hb dX3_tell_29 (by decide) ?_
    refine va_iast (f := (gA st 2)) hx hb hK hI.1 hI.2.1 hI.2.2 5 2 rfl rfl (vin_and _ 4 rfl (by decide) (by decide)) dX3_tell_30 (fun H locs hP hD hS => ?_)
    have hI : cI (gD g) vwCl (cw g) A s (sA (sA st 3 (upd (gA st 3) (x1 &&& (15 : Int32)).toNatClampNeg ((ushr x1 (8 : Int32)) &&& (3 : Int32)))) 2 (upd (gA st 2) (x1 &&& (15 : Int32)).toNatClampNeg (-1 : Int32))) H locs := ⟨hP, hD, hS⟩
    refine lv_goto (tgt := 58) hx hb dX3_tell_31 (by decide) ?_
    exact cx_vret C hI hF dX3_tell_58
set_option maxHeartbeats 4000000 in
set_option maxRecDepth 100000 in
theorem c_cEntries_tell (l : Launch) (g : Gm) (st : CS) (x1 : Int32) : Mv l yX3_tell wq_X3_tell rm_cEntries_tell (gD g) vwCl (cty g) (cw g) (cz g) [.ref (gad g 4), .int x1] st (cEntries_tell st x1) := by
  intro sz
  refine Met.ofW (cc := cX3_tell) (maxL := 3) (ret := none) (by decide) rfl ?_
  intro p e s m args below meth c s₁ B hml hv
  obtain ⟨rfl, hsz, hP, hK, hD0, hZ⟩ := hv
  subst hsz
  have hl := lv_entry ([.ref (gad g 4), .int x1]) (n := 3) (Nat.le_of_ble_eq_true rfl)
  rw [lg_entry_eq]
  generalize (lg_sl ([.ref (gad g 4), .int x1]) ++ List.replicate (3 - (lg_sl ([.ref (gad g 4), .int x1])).length) Slot.unset).toArray = ls at hl ⊢
  exact k_cEntries_tell g ⟨B.exec, B.bytes, B.returns, hml, findClass_of_methodNamed B.named, atoms_spec (ws := wq_X3_tell) B.pre, B.notSynchronized, hK, fun q h => Or.inr h, hZ, cz_ok g⟩ st x1 _ _ ls ⟨hP, hD0.self, va_S.rf⟩ hl _ rfl
