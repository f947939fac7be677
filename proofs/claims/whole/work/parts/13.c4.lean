abbrev wq_X5_trapsTaken : List Cond := .code yX5_trapsTaken cX5_trapsTaken 2 (some .long) :: wAll
theorem yd_yX5_trapsTaken : yX5_trapsTaken.cls = RX5 ∧ yX5_trapsTaken.cls ≠ "java/lang/invoke/MethodHandle" ∧ yX5_trapsTaken.cls ≠ "java/lang/invoke/VarHandle" ∧ (parseMethodDescriptor yX5_trapsTaken.desc).map (fun d => d.parameters.length) = some 1 := by decide +kernel
abbrev rm_cProcessor_trapsTaken : Room := { frames := 0, cells := 0, slots := 0, locals := 0 }
def cProcessor_trapsTaken (st : CS) (x1 : Int32) : Int64 := ((gB st 0) (x1 &&& (7 : Int32)).toNatClampNeg)
set_option maxHeartbeats 4000000 in
set_option maxRecDepth 100000 in
theorem k_cProcessor_trapsTaken {p : Program} {l : Launch} {e : Env} {s : State} {m : MethodId} {args : Array Value} {below : List Frame} {meth : Method} {c : Code} {A : Nat → Prop} (g : Gm) (C : cX p s m args meth c A cX5_trapsTaken (some .long) 2 RX5 wq_X5_trapsTaken (gD g) vwCl (cty g) (cz g)) (st : CS) (x1 : Int32) (H : Heap) (locs : List Loc) (ls : Array Slot) (hI : cI (gD g) vwCl (cw g) A s st H locs) (hl : lv_has ls 2 [(0, .ref (gad g 19)), (1, .int x1)]) (X : Int64) (hF : X = cProcessor_trapsTaken st x1) : W p l e rm_cProcessor_trapsTaken s m args below meth c H locs 0 0 (MQ below (cQl (gD g) vwCl (cty g) (cw g) A st X) args s 0 0 A) (F0 m 0 ls []) := by
  obtain ⟨hx, hb, hr, hml, hown, hts, hlocks, hK, hA, hZ, hzo⟩ := id C
  unfold cProcessor_trapsTaken at hF
  refine lv_aload_n hx hb dX5_trapsTaken_0 rfl (lv_at hl 0 rfl) ?_
  refine va_get (D := gD g) (ci := 5) (C := RX5) (T := TX5) (N := 10) (v := .ref (gad g 20)) hx hb hts (fun w h => List.mem_cons_of_mem _ (isX50 w h)) hown hK hI.1 19 rfl rfl 3 (by decide) (hts _ (List.mem_cons_of_mem _ mw110)) (fun _ h9 => h9) rfl dX5_trapsTaken_1 ?_
  refine lv_iload_n hx hb dX5_trapsTaken_4 rfl (lv_at hl 1 rfl) ?_
  refine lv_bipush (v := (7 : Int32)) hx hb dX5_trapsTaken_5 (by decide) ?_
  refine lv_iand hx hb dX5_trapsTaken_7 ?_
  refine va_lald (f := (gB st 0)) hx hb hK hI.1 20 8 rfl rfl (vin_and _ 3 rfl (by decide) (by decide)) dX5_trapsTaken_8 ?_
  exact cx_lret C hI rfl hF dX5_trapsTaken_9
set_option maxHeartbeats 4000000 in
set_option maxRecDepth 100000 in
theorem c_cProcessor_trapsTaken (l : Launch) (g : Gm) (st : CS) (x1 : Int32) : Ml l yX5_trapsTaken wq_X5_trapsTaken rm_cProcessor_trapsTaken (gD g) vwCl (cty g) (cw g) (cz g) [.ref (gad g 19), .int x1] st st (cProcessor_trapsTaken st x1) := by
  intro sz
  refine Met.ofW (cc := cX5_trapsTaken) (maxL := 2) (ret := (some .long)) (by decide) rfl ?_
  intro p e s m args below meth c s₁ B hml hv
  obtain ⟨rfl, hsz, hP, hK, hD0, hZ⟩ := hv
  subst hsz
  have hl := lv_entry ([.ref (gad g 19), .int x1]) (n := 2) (Nat.le_of_ble_eq_true rfl)
  rw [lg_entry_eq]
  generalize (lg_sl ([.ref (gad g 19), .int x1]) ++ List.replicate (2 - (lg_sl ([.ref (gad g 19), .int x1])).length) Slot.unset).toArray = ls at hl ⊢
  exact k_cProcessor_trapsTaken g ⟨B.exec, B.bytes, B.returns, hml, findClass_of_methodNamed B.named, atoms_spec (ws := wq_X5_trapsTaken) B.pre, B.notSynchronized, hK, fun q h => Or.inr h, hZ, cz_ok g⟩ st x1 _ _ ls ⟨hP, hD0.self, va_S.rf⟩ hl _ rfl
abbrev wq_X5_trapAhead : List Cond := .code yX5_trapAhead cX5_trapAhead 2 (some .int) :: wAll
theorem yd_yX5_trapAhead : yX5_trapAhead.cls = RX5 ∧ yX5_trapAhead.cls ≠ "java/lang/invoke/MethodHandle" ∧ yX5_trapAhead.cls ≠ "java/lang/invoke/VarHandle" ∧ (parseMethodDescriptor yX5_trapAhead.desc).map (fun d => d.parameters.length) = some 0 := by decide +kernel
abbrev rm_cProcessor_trapAhead : Room := { frames := 2, cells := 0, slots := 0, locals := 46 }
def cProcessor_trapAhead_b60 (st : CS) : CS × Int32 := (if ((cBus_find st (cRegisters_mode st) (gI st 31) (0 : Int32)) = (-1 : Int32)) then (st, (2 : Int32)) else ((sI st 32 (cBus_fetch st (cBus_find st (cRegisters_mode st) (gI st 31) (0 : Int32)))), (-1 : Int32)))
set_option maxHeartbeats 4000000 in
set_option maxRecDepth 100000 in
theorem k_cProcessor_trapAhead_b60 {p : Program} {l : Launch} {e : Env} {s : State} {m : MethodId} {args : Array Value} {below : List Frame} {meth : Method} {c : Code} {A : Nat → Prop} (g : Gm) (C : cX p s m args meth c A cX5_trapAhead (some .int) 2 RX5 wq_X5_trapAhead (gD g) vwCl (cty g) (cz g)) (st : CS) (H : Heap) (locs : List Loc) (ls : Array Slot) (hI : cI (gD g) vwCl (cw g) A s st H locs) (hl : lv_has ls 2 [(0, .ref (gad g 19))]) (X : CS × Int32) (hF : X = cProcessor_trapAhead_b60 st ) : W p l e rm_cProcessor_trapAhead s m args below meth c H locs 0 0 (MQ below (cQi (gD g) vwCl (cty g) (cw g) A X.1 X.2) args s 0 0 A) (F0 m 60 ls []) := by
  obtain ⟨hx, hb, hr, hml, hown, hts, hlocks, hK, hA, hZ, hzo⟩ := id C
  unfold cProcessor_trapAhead_b60 at hF
  refine lv_aload_n hx hb dX5_trapAhead_60 rfl (lv_at hl 0 rfl) ?_
  refine va_get (D := gD g) (ci := 5) (C := RX5) (T := TX5) (N := 10) (v := .ref (gad g 18)) hx hb hts (fun w h => List.mem_cons_of_mem _ (isX50 w h)) hown hK hI.1 19 rfl rfl 1 (by decide) (hts _ (List.mem_cons_of_mem _ mw113)) (fun _ h9 => h9) rfl dX5_trapAhead_61 ?_
  refine lv_aload_n hx hb dX5_trapAhead_64 rfl (lv_at hl 0 rfl) ?_
  refine va_get (D := gD g) (ci := 5) (C := RX5) (T := TX5) (N := 10) (v := .ref (gad g 2)) hx hb hts (fun w h => List.mem_cons_of_mem _ (isX50 w h)) hown hK hI.1 19 rfl rfl 0 (by decide) (hts _ (List.mem_cons_of_mem _ mw112)) (fun _ h9 => h9) rfl dX5_trapAhead_65 ?_
  refine cx_Vi (As := []) (rest := [.ref (gad g 18)]) C (c_cRegisters_mode l g st ) (cwV 0 hts (gd_V _ mw329 mw330 mw331 mw14 mw332) rfl rfl rfl yd_yX6_mode ⟨Nat.le_of_ble_eq_true rfl, Nat.le_of_ble_eq_true rfl⟩) (va_recv hK hI.1 (ci := 6) (q0 := 2) rfl rfl) hI rfl hl.1 rfl (Nat.le_of_ble_eq_true rfl) dX5_trapAhead_68 (fun H locs hI => ?_)
  refine lv_aload_n hx hb dX5_trapAhead_71 rfl (lv_at hl 0 rfl) ?_
  refine va_get (D := gD g) (ci := 5) (C := RX5) (T := TX5) (N := 10) (v := .int (gI st 31)) hx hb hts (fun w h => List.mem_cons_of_mem _ (isX50 w h)) hown hK hI.1 19 rfl rfl 5 (by decide) (hts _ (List.mem_cons_of_mem _ mw308)) (fun _ h9 => h9) rfl dX5_trapAhead_72 ?_
  refine lv_iconst (v := (0 : Int32)) hx hb dX5_trapAhead_75 (by decide) ?_
  refine cx_Vi (As := [.int (cRegisters_mode st), .int (gI st 31), .int (0 : Int32)]) (rest := []) C (c_cBus_find l g st (cRegisters_mode st) (gI st 31) (0 : Int32)) (cwV 3 hts (gd_V _ mw333 mw334 mw335 mw42 mw336) rfl rfl rfl yd_yX0_find ⟨Nat.le_of_ble_eq_true rfl, Nat.le_of_ble_eq_true rfl⟩) (va_recv hK hI.1 (ci := 0) (q0 := 18) rfl rfl) hI rfl hl.1 rfl (Nat.le_of_ble_eq_true rfl) dX5_trapAhead_76 (fun H locs hI => ?_)
  refine lv_istore_n (lv' := [(1, .int (cBus_find st (cRegisters_mode st) (gI st 31) (0 : Int32))), (0, .ref (gad g 19))]) hx hb dX5_trapAhead_79 rfl hl (by decide) rfl (fun ls hl => ?_)
  refine lv_iload_n hx hb dX5_trapAhead_80 rfl (lv_at hl 0 rfl) ?_
  refine lv_iconst (v := (-1 : Int32)) hx hb dX5_trapAhead_81 (by decide) ?_
  refine lv_icmp_ne (tgt := 87) hx hb dX5_trapAhead_82 (by decide) (fun c_82 => ?_) (fun c_82 => ?_)
  · have hF := hF.trans (if_neg c_82)
    refine lv_aload_n hx hb dX5_trapAhead_87 rfl (lv_at hl 1 rfl) ?_
    refine lv_aload_n hx hb dX5_trapAhead_88 rfl (lv_at hl 1 rfl) ?_
    refine va_get (D := gD g) (ci := 5) (C := RX5) (T := TX5) (N := 10) (v := .ref (gad g 18)) hx hb hts (fun w h => List.mem_cons_of_mem _ (isX50 w h)) hown hK hI.1 19 rfl rfl 1 (by decide) (hts _ (List.mem_cons_of_mem _ mw113)) (fun _ h9 => h9) rfl dX5_trapAhead_89 ?_
    refine lv_iload_n hx hb dX5_trapAhead_92 rfl (lv_at hl 0 rfl) ?_
    refine cx_Vi (As := [.int (cBus_find st (cRegisters_mode st) (gI st 31) (0 : Int32))]) (rest := [.ref (gad g 19)]) C (c_cBus_fetch l g st (cBus_find st (cRegisters_mode st) (gI st 31) (0 : Int32))) (cwV 1 hts (gd_V _ mw347 mw348 mw349 mw42 mw350) rfl rfl rfl yd_yX0_fetch ⟨Nat.le_of_ble_eq_true rfl, Nat.le_of_ble_eq_true rfl⟩) (va_recv hK hI.1 (ci := 0) (q0 := 18) rfl rfl) hI rfl hl.1 rfl (Nat.le_of_ble_eq_true rfl) dX5_trapAhead_93 (fun H locs hI => ?_)
    refine va_put (D := gD g) (ci := 5) (C := RX5) (T := TX5) (N := 10) (v := .int (cBus_fetch st (cBus_find st (cRegisters_mode st) (gI st 31) (0 : Int32)))) (ty := .int) hx hb hts (fun w h => List.mem_cons_of_mem _ (isX50 w h)) tyX5 tyX5_ok nmX5 hown hK hI.1 hI.2.1 hI.2.2 19 rfl rfl 6 (by decide) (hts _ (List.mem_cons_of_mem _ mw311)) (fun _ h9 => h9) rfl (by decide +kernel) rfl rfl (Nat.le_of_ble_eq_true rfl) dX5_trapAhead_96 (fun H locs hP hD hS => ?_)
    have hI : cI (gD g) vwCl (cw g) A s (sI st 32 (cBus_fetch st (cBus_find st (cRegisters_mode st) (gI st 31) (0 : Int32)))) H locs := ⟨hP, hD, hS⟩
    refine lv_iconst (v := (-1 : Int32)) hx hb dX5_trapAhead_99 (by decide) ?_
    exact cx_iret C hI (congrArg Prod.fst hF) (congrArg Prod.snd hF) dX5_trapAhead_100
  · have hF := hF.trans (if_pos c_82)
    refine lv_iconst (v := (2 : Int32)) hx hb dX5_trapAhead_85 (by decide) ?_
    exact cx_iret C hI (congrArg Prod.fst hF) (congrArg Prod.snd hF) dX5_trapAhead_86
def cProcessor_trapAhead_b36 (st : CS) : CS × Int32 := (if ((cLines_isIrq st) = 0) then (cProcessor_trapAhead_b60 st ) else (if ((cRegisters_has st (134217728 : Int32)) = 0) then (st, (5 : Int32)) else (cProcessor_trapAhead_b60 st )))
set_option maxHeartbeats 4000000 in
set_option maxRecDepth 100000 in
theorem k_cProcessor_trapAhead_b36 {p : Program} {l : Launch} {e : Env} {s : State} {m : MethodId} {args : Array Value} {below : List Frame} {meth : Method} {c : Code} {A : Nat → Prop} (g : Gm) (C : cX p s m args meth c A cX5_trapAhead (some .int) 2 RX5 wq_X5_trapAhead (gD g) vwCl (cty g) (cz g)) (st : CS) (H : Heap) (locs : List Loc) (ls : Array Slot) (hI : cI (gD g) vwCl (cw g) A s st H locs) (hl : lv_has ls 2 [(0, .ref (gad g 19))]) (X : CS × Int32) (hF : X = cProcessor_trapAhead_b36 st ) : W p l e rm_cProcessor_trapAhead s m args below meth c H locs 0 0 (MQ below (cQi (gD g) vwCl (cty g) (cw g) A X.1 X.2) args s 0 0 A) (F0 m 36 ls []) := by
  obtain ⟨hx, hb, hr, hml, hown, hts, hlocks, hK, hA, hZ, hzo⟩ := id C
  unfold cProcessor_trapAhead_b36 at hF
  refine lv_aload_n hx hb dX5_trapAhead_36 rfl (lv_at hl 0 rfl) ?_
  refine va_get (D := gD g) (ci := 5) (C := RX5) (T := TX5) (N := 10) (v := .ref (gad g 7)) hx hb hts (fun w h => List.mem_cons_of_mem _ (isX50 w h)) hown hK hI.1 19 rfl rfl 2 (by decide) (hts _ (List.mem_cons_of_mem _ mw114)) (fun _ h9 => h9) rfl dX5_trapAhead_37 ?_
  refine cx_Vi (As := []) (rest := []) C (c_cLines_isIrq l g st ) (cwV 0 hts (gd_V _ mw325 mw326 mw327 mw22 mw328) rfl rfl rfl yd_yX4_isIrq ⟨Nat.le_of_ble_eq_true rfl, Nat.le_of_ble_eq_true rfl⟩) (va_recv hK hI.1 (ci := 4) (q0 := 7) rfl rfl) hI rfl hl.1 rfl (Nat.le_of_ble_eq_true rfl) dX5_trapAhead_40 (fun H locs hI => ?_)
  refine lv_if_eq (tgt := 60) hx hb dX5_trapAhead_43 (by decide) (fun c_43 => ?_) (fun c_43 => ?_)
  · have hF := hF.trans (if_pos c_43)
    exact k_cProcessor_trapAhead_b60 g C st  H locs ls hI (lv_sub hl [0] rfl) X hF
  · have hF := hF.trans (if_neg c_43)
    refine lv_aload_n hx hb dX5_trapAhead_46 rfl (lv_at hl 0 rfl) ?_
    refine va_get (D := gD g) (ci := 5) (C := RX5) (T := TX5) (N := 10) (v := .ref (gad g 2)) hx hb hts (fun w h => List.mem_cons_of_mem _ (isX50 w h)) hown hK hI.1 19 rfl rfl 0 (by decide) (hts _ (List.mem_cons_of_mem _ mw112)) (fun _ h9 => h9) rfl dX5_trapAhead_47 ?_
    refine lv_ldc (v := (134217728 : Int32)) hx hb hown (hts _ (List.mem_cons_of_mem _ mw310)) dX5_trapAhead_50 ?_
    refine cx_Vi (As := [.int (134217728 : Int32)]) (rest := []) C (c_cRegisters_has l g st (134217728 : Int32)) (cwV 1 hts (gd_V _ mw321 mw322 mw323 mw14 mw324) rfl rfl rfl yd_yX6_has ⟨Nat.le_of_ble_eq_true rfl, Nat.le_of_ble_eq_true rfl⟩) (va_recv hK hI.1 (ci := 6) (q0 := 2) rfl rfl) hI rfl hl.1 rfl (Nat.le_of_ble_eq_true rfl) dX5_trapAhead_52 (fun H locs hI => ?_)
    refine lv_if_ne (tgt := 60) hx hb dX5_trapAhead_55 (by decide) (fun c_55 => ?_) (fun c_55 => ?_)
    · have hF := hF.trans (if_neg c_55)
      exact k_cProcessor_trapAhead_b60 g C st  H locs ls hI (lv_sub hl [0] rfl) X hF
    · have hF := hF.trans (if_pos c_55)
      refine lv_iconst (v := (5 : Int32)) hx hb dX5_trapAhead_58 (by decide) ?_
      exact cx_iret C hI (congrArg Prod.fst hF) (congrArg Prod.snd hF) dX5_trapAhead_59
def cProcessor_trapAhead (st : CS) : CS × Int32 := (if ((cLines_isFiq (sI st 31 (cRegisters_pc st))) = 0) then (cProcessor_trapAhead_b36 (sI st 31 (cRegisters_pc st)) ) else (if ((cRegisters_has (sI st 31 (cRegisters_pc st)) (67108864 : Int32)) = 0) then ((sI st 31 (cRegisters_pc st)), (6 : Int32)) else (cProcessor_trapAhead_b36 (sI st 31 (cRegisters_pc st)) )))
set_option maxHeartbeats 4000000 in
set_option maxRecDepth 100000 in
theorem k_cProcessor_trapAhead {p : Program} {l : Launch} {e : Env} {s : State} {m : MethodId} {args : Array Value} {below : List Frame} {meth : Method} {c : Code} {A : Nat → Prop} (g : Gm) (C : cX p s m args meth c A cX5_trapAhead (some .int) 2 RX5 wq_X5_trapAhead (gD g) vwCl (cty g) (cz g)) (st : CS) (H : Heap) (locs : List Loc) (ls : Array Slot) (hI : cI (gD g) vwCl (cw g) A s st H locs) (hl : lv_has ls 2 [(0, .ref (gad g 19))]) (X : CS × Int32) (hF : X = cProcessor_trapAhead st) : W p l e rm_cProcessor_trapAhead s m args below meth c H locs 0 0 (MQ below (cQi (gD g) vwCl (cty g) (cw g) A X.1 X.2) args s 0 0 A) (F0 m 0 ls []) := by
  obtain ⟨hx, hb, hr, hml, hown, hts, hlocks, hK, hA, hZ, hzo⟩ := id C
  unfold cProcessor_trapAhead at hF
  refine lv_aload_n hx hb dX5_trapAhead_0 rfl (lv_at hl 0 rfl) ?_
  refine lv_aload_n hx hb dX5_trapAhead_1 rfl (lv_at hl 0 rfl) ?_
  refine va_get (D := gD g) (ci := 5) (C := RX5) (T := TX5) (N := 10) (v := .ref (gad g 2)) hx hb hts (fun w h => List.mem_cons_of_mem _ (isX50 w h)) hown hK hI.1 19 rfl rfl 0 (by decide) (hts _ (List.mem_cons_of_mem _ mw112)) (fun _ h9 => h9) rfl dX5_trapAhead_2 ?_
  refine cx_Vi (As := []) (rest := [.ref (gad g 19)]) C (c_cRegisters_pc l g st ) (cwV 0 hts (gd_V _ mw312 mw313 mw314 mw14 mw315) rfl rfl rfl yd_yX6_pc ⟨Nat.le_of_ble_eq_true rfl, Nat.le_of_ble_eq_true rfl⟩) (va_recv hK hI.1 (ci := 6) (q0 := 2) rfl rfl) hI rfl hl.1 rfl (Nat.le_of_ble_eq_true rfl) dX5_trapAhead_5 (fun H locs hI => ?_)
  refine va_put (D := gD g) (ci := 5) (C := RX5) (T := TX5) (N := 10) (v := .int (cRegisters_pc st)) (ty := .int) hx hb hts (fun w h => List.mem_cons_of_mem _ (isX50 w h)) tyX5 tyX5_ok nmX5 hown hK hI.1 hI.2.1 hI.2.2 19 rfl rfl 5 (by decide) (hts _ (List.mem_cons_of_mem _ mw308)) (fun _ h9 => h9) rfl (by decide +kernel) rfl rfl (Nat.le_of_ble_eq_true rfl) dX5_trapAhead_8 (fun H locs hP hD hS => ?_)
  have hI : cI (gD g) vwCl (cw g) A s (sI st 31 (cRegisters_pc st)) H locs := ⟨hP, hD, hS⟩
  refine lv_aload_n hx hb dX5_trapAhead_11 rfl (lv_at hl 0 rfl) ?_
  refine va_get (D := gD g) (ci := 5) (C := RX5) (T := TX5) (N := 10) (v := .ref (gad g 7)) hx hb hts (fun w h => List.mem_cons_of_mem _ (isX50 w h)) hown hK hI.1 19 rfl rfl 2 (by decide) (hts _ (List.mem_cons_of_mem _ mw114)) (fun _ h9 => h9) rfl dX5_trapAhead_12 ?_
  refine cx_Vi (As := []) (rest := []) C (c_cLines_isFiq l g (sI st 31 (cRegisters_pc st)) ) (cwV 0 hts (gd_V _ mw317 mw318 mw319 mw22 mw320) rfl rfl rfl yd_yX4_isFiq ⟨Nat.le_of_ble_eq_true rfl, Nat.le_of_ble_eq_true rfl⟩) (va_recv hK hI.1 (ci := 4) (q0 := 7) rfl rfl) hI rfl hl.1 rfl (Nat.le_of_ble_eq_true rfl) dX5_trapAhead_15 (fun H locs hI => ?_)
  refine lv_if_eq (tgt := 36) hx hb dX5_trapAhead_18 (by decide) (fun c_18 => ?_) (fun c_18 => ?_)
  · have hF := hF.trans (if_pos c_18)
    exact k_cProcessor_trapAhead_b36 g C (sI st 31 (cRegisters_pc st))  H locs ls hI (lv_sub hl [0] rfl) X hF
  · have hF := hF.trans (if_neg c_18)
    refine lv_aload_n hx hb dX5_trapAhead_21 rfl (lv_at hl 0 rfl) ?_
    refine va_get (D := gD g) (ci := 5) (C := RX5) (T := TX5) (N := 10) (v := .ref (gad g 2)) hx hb hts (fun w h => List.mem_cons_of_mem _ (isX50 w h)) hown hK hI.1 19 rfl rfl 0 (by decide) (hts _ (List.mem_cons_of_mem _ mw112)) (fun _ h9 => h9) rfl dX5_trapAhead_22 ?_
    refine lv_ldc (v := (67108864 : Int32)) hx hb hown (hts _ (List.mem_cons_of_mem _ mw309)) dX5_trapAhead_25 ?_
    refine cx_Vi (As := [.int (67108864 : Int32)]) (rest := []) C (c_cRegisters_has l g (sI st 31 (cRegisters_pc st)) (67108864 : Int32)) (cwV 1 hts (gd_V _ mw321 mw322 mw323 mw14 mw324) rfl rfl rfl yd_yX6_has ⟨Nat.le_of_ble_eq_true rfl, Nat.le_of_ble_eq_true rfl⟩) (va_recv hK hI.1 (ci := 6) (q0 := 2) rfl rfl) hI rfl hl.1 rfl (Nat.le_of_ble_eq_true rfl) dX5_trapAhead_27 (fun H locs hI => ?_)
    refine lv_if_ne (tgt := 36) hx hb dX5_trapAhead_30 (by decide) (fun c_30 => ?_) (fun c_30 => ?_)
    · have hF := hF.trans (if_neg c_30)
      exact k_cProcessor_trapAhead_b36 g C (sI st 31 (cRegisters_pc st))  H locs ls hI (lv_sub hl [0] rfl) X hF
    · have hF := hF.trans (if_pos c_30)
      refine lv_bipush (v := (6 : Int32)) hx hb dX5_trapAhead_33 (by decide) ?_
      exact cx_iret C hI (congrArg Prod.fst hF) (congrArg Prod.snd hF) dX5_trapAhead_35
set_option maxHeartbeats 4000000 in
set_option maxRecDepth 100000 in
theorem c_cProcessor_trapAhead (l : Launch) (g : Gm) (st : CS) : Mi l yX5_trapAhead wq_X5_trapAhead rm_cProcessor_trapAhead (gD g) vwCl (cty g) (cw g) (cz g) [.ref (gad g 19)] st (cProcessor_trapAhead st).1 (cProcessor_trapAhead st).2 := by
  intro sz
  refine Met.ofW (cc := cX5_trapAhead) (maxL := 2) (ret := (some .int)) (by decide) rfl ?_
  intro p e s m args below meth c s₁ B hml hv
  obtain ⟨rfl, hsz, hP, hK, hD0, hZ⟩ := hv
  subst hsz
  have hl := lv_entry ([.ref (gad g 19)]) (n := 2) (Nat.le_of_ble_eq_true rfl)
  rw [lg_entry_eq]
  generalize (lg_sl ([.ref (gad g 19)]) ++ List.replicate (2 - (lg_sl ([.ref (gad g 19)])).length) Slot.unset).toArray = ls at hl ⊢
  exact k_cProcessor_trapAhead g ⟨B.exec, B.bytes, B.returns, hml, findClass_of_methodNamed B.named, atoms_spec (ws := wq_X5_trapAhead) B.pre, B.notSynchronized, hK, fun q h => Or.inr h, hZ, cz_ok g⟩ st  _ _ ls ⟨hP, hD0.self, va_S.rf⟩ hl _ rfl
abbrev wq_X5_pcAhead : List Cond := .code yX5_pcAhead cX5_pcAhead 2 (some .int) :: wAll
theorem yd_yX5_pcAhead : yX5_pcAhead.cls = RX5 ∧ yX5_pcAhead.cls ≠ "java/lang/invoke/MethodHandle" ∧ yX5_pcAhead.cls ≠ "java/lang/invoke/VarHandle" ∧ (parseMethodDescriptor yX5_pcAhead.desc).map (fun d => d.parameters.length) = some 1 := by decide +kernel
abbrev rm_cProcessor_pcAhead : Room := { frames := 0, cells := 0, slots := 0, locals := 0 }
def cProcessor_pcAhead (st : CS) (x1 : Int32) : Int32 := (((gI st 31) + x1) &&& (67108860 : Int32))
set_option maxHeartbeats 4000000 in
set_option maxRecDepth 100000 in
theorem k_cProcessor_pcAhead {p : Program} {l : Launch} {e : Env} {s : State} {m : MethodId} {args : Array Value} {below : List Frame} {meth : Method} {c : Code} {A : Nat → Prop} (g : Gm) (C : cX p s m args meth c A cX5_pcAhead (some .int) 2 RX5 wq_X5_pcAhead (gD g) vwCl (cty g) (cz g)) (st : CS) (x1 : Int32) (H : Heap) (locs : List Loc) (ls : Array Slot) (hI : cI (gD g) vwCl (cw g) A s st H locs) (hl : lv_has ls 2 [(0, .ref (gad g 19)), (1, .int x1)]) (X : Int32) (hF : X = cProcessor_pcAhead st x1) : W p l e rm_cProcessor_pcAhead s m args below meth c H locs 0 0 (MQ below (cQi (gD g) vwCl (cty g) (cw g) A st X) args s 0 0 A) (F0 m 0 ls []) := by
  obtain ⟨hx, hb, hr, hml, hown, hts, hlocks, hK, hA, hZ, hzo⟩ := id C
  unfold cProcessor_pcAhead at hF
  refine lv_aload_n hx hb dX5_pcAhead_0 rfl (lv_at hl 0 rfl) ?_
  refine va_get (D := gD g) (ci := 5) (C := RX5) (T := TX5) (N := 10) (v := .int (gI st 31)) hx hb hts (fun w h => List.mem_cons_of_mem _ (isX50 w h)) hown hK hI.1 19 rfl rfl 5 (by decide) (hts _ (List.mem_cons_of_mem _ mw308)) (fun _ h9 => h9) rfl dX5_pcAhead_1 ?_
  refine lv_iload_n hx hb dX5_pcAhead_4 rfl (lv_at hl 1 rfl) ?_
  refine lv_iadd hx hb dX5_pcAhead_5 ?_
  refine lv_ldc (v := (67108860 : Int32)) hx hb hown (hts _ (List.mem_cons_of_mem _ mw415)) dX5_pcAhead_6 ?_
  refine lv_iand hx hb dX5_pcAhead_8 ?_
  exact cx_iret C hI rfl hF dX5_pcAhead_9
set_option maxHeartbeats 4000000 in
set_option maxRecDepth 100000 in
theorem c_cProcessor_pcAhead (l : Launch) (g : Gm) (st : CS) (x1 : Int32) : Mi l yX5_pcAhead wq_X5_pcAhead rm_cProcessor_pcAhead (gD g) vwCl (cty g) (cw g) (cz g) [.ref (gad g 19), .int x1] st st (cProcessor_pcAhead st x1) := by
  intro sz
  refine Met.ofW (cc := cX5_pcAhead) (maxL := 2) (ret := (some .int)) (by decide) rfl ?_
  intro p e s m args below meth c s₁ B hml hv
  obtain ⟨rfl, hsz, hP, hK, hD0, hZ⟩ := hv
  subst hsz
  have hl := lv_entry ([.ref (gad g 19), .int x1]) (n := 2) (Nat.le_of_ble_eq_true rfl)
  rw [lg_entry_eq]
  generalize (lg_sl ([.ref (gad g 19), .int x1]) ++ List.replicate (2 - (lg_sl ([.ref (gad g 19), .int x1])).length) Slot.unset).toArray = ls at hl ⊢
  exact k_cProcessor_pcAhead g ⟨B.exec, B.bytes, B.returns, hml, findClass_of_methodNamed B.named, atoms_spec (ws := wq_X5_pcAhead) B.pre, B.notSynchronized, hK, fun q h => Or.inr h, hZ, cz_ok g⟩ st x1 _ _ ls ⟨hP, hD0.self, va_S.rf⟩ hl _ rfl
abbrev wq_X5_withSigns : List Cond := .code yX5_withSigns cX5_withSigns 2 (some .int) :: wAll
theorem yd_yX5_withSigns : yX5_withSigns.cls = RX5 ∧ yX5_withSigns.cls ≠ "java/lang/invoke/MethodHandle" ∧ yX5_withSigns.cls ≠ "java/lang/invoke/VarHandle" ∧ (parseMethodDescriptor yX5_withSigns.desc).map (fun d => d.parameters.length) = some 1 := by decide +kernel
abbrev rm_cProcessor_withSigns : Room := { frames := 1, cells := 0, slots := 0, locals := 21 }
def cProcessor_withSigns (st : CS) (x1 : Int32) : Int32 := ((cRegisters_signs st) ||| (cProcessor_pcAhead st x1))
set_option maxHeartbeats 4000000 in
set_option maxRecDepth 100000 in
theorem k_cProcessor_withSigns {p : Program} {l : Launch} {e : Env} {s : State} {m : MethodId} {args : Array Value} {below : List Frame} {meth : Method} {c : Code} {A : Nat → Prop} (g : Gm) (C : cX p s m args meth c A cX5_withSigns (some .int) 2 RX5 wq_X5_withSigns (gD g) vwCl (cty g) (cz g)) (st : CS) (x1 : Int32) (H : Heap) (locs : List Loc) (ls : Array Slot) (hI : cI (gD g) vwCl (cw g) A s st H locs) (hl : lv_has ls 2 [(0, .ref (gad g 19)), (1, .int x1)]) (X : Int32) (hF : X = cProcessor_withSigns st x1) : W p l e rm_cProcessor_withSigns s m args below meth c H locs 0 0 (MQ below (cQi (gD g) vwCl (cty g) (cw g) A st X) args s 0 0 A) (F0 m 0 ls []) := by
  obtain ⟨hx, hb, hr, hml, hown, hts, hlocks, hK, hA, hZ, hzo⟩ := id C
  unfold cProcessor_withSigns at hF
  refine lv_aload_n hx hb dX5_withSigns_0 rfl (lv_at hl 0 rfl) ?_
  refine va_get (D := gD g) (ci := 5) (C := RX5) (T := TX5) (N := 10) (v := .ref (gad g 2)) hx hb hts (fun w h => List.mem_cons_of_mem _ (isX50 w h)) hown hK hI.1 19 rfl rfl 0 (by decide) (hts _ (List.mem_cons_of_mem _ mw112)) (fun _ h9 => h9) rfl dX5_withSigns_1 ?_
  refine cx_Vi (As := []) (rest := []) C (c_cRegisters_signs l g st ) (cwV 0 hts (gd_V _ mw410 mw366 mw367 mw14 mw368) rfl rfl rfl yd_yX6_signs ⟨Nat.le_of_ble_eq_true rfl, Nat.le_of_ble_eq_true rfl⟩) (va_recv hK hI.1 (ci := 6) (q0 := 2) rfl rfl) hI rfl hl.1 rfl (Nat.le_of_ble_eq_true rfl) dX5_withSigns_4 (fun H locs hI => ?_)
  refine lv_aload_n hx hb dX5_withSigns_7 rfl (lv_at hl 0 rfl) ?_
  refine lv_iload_n hx hb dX5_withSigns_8 rfl (lv_at hl 1 rfl) ?_
  refine cx_Vi (As := [.int x1]) (rest := [.int (cRegisters_signs st)]) C (c_cProcessor_pcAhead l g st x1) (cwV 1 hts (gd_V _ mw411 mw412 mw413 mw46 mw414) rfl rfl rfl yd_yX5_pcAhead ⟨Nat.le_of_ble_eq_true rfl, Nat.le_of_ble_eq_true rfl⟩) (va_recv hK hI.1 (ci := 5) (q0 := 19) rfl rfl) hI rfl hl.1 rfl (Nat.le_of_ble_eq_true rfl) dX5_withSigns_9 (fun H locs hI => ?_)
  refine lv_ior hx hb dX5_withSigns_12 ?_
  exact cx_iret C hI rfl hF dX5_withSigns_13
set_option maxHeartbeats 4000000 in
set_option maxRecDepth 100000 in
theorem c_cProcessor_withSigns (l : Launch) (g : Gm) (st : CS) (x1 : Int32) : Mi l yX5_withSigns wq_X5_withSigns rm_cProcessor_withSigns (gD g) vwCl (cty g) (cw g) (cz g) [.ref (gad g 19), .int x1] st st (cProcessor_withSigns st x1) := by
  intro sz
  refine Met.ofW (cc := cX5_withSigns) (maxL := 2) (ret := (some .int)) (by decide) rfl ?_
  intro p e s m args below meth c s₁ B hml hv
  obtain ⟨rfl, hsz, hP, hK, hD0, hZ⟩ := hv
  subst hsz
  have hl := lv_entry ([.ref (gad g 19), .int x1]) (n := 2) (Nat.le_of_ble_eq_true rfl)
  rw [lg_entry_eq]
  generalize (lg_sl ([.ref (gad g 19), .int x1]) ++ List.replicate (2 - (lg_sl ([.ref (gad g 19), .int x1])).length) Slot.unset).toArray = ls at hl ⊢
  exact k_cProcessor_withSigns g ⟨B.exec, B.bytes, B.returns, hml, findClass_of_methodNamed B.named, atoms_spec (ws := wq_X5_withSigns) B.pre, B.notSynchronized, hK, fun q h => Or.inr h, hZ, cz_ok g⟩ st x1 _ _ ls ⟨hP, hD0.self, va_S.rf⟩ hl _ rfl
abbrev wq_X5_take : List Cond := .code yX5_take cX5_take 5 (some .int) :: wAll
theorem yd_yX5_take : yX5_take.cls = RX5 ∧ yX5_take.cls ≠ "java/lang/invoke/MethodHandle" ∧ yX5_take.cls ≠ "java/lang/invoke/VarHandle" ∧ (parseMethodDescriptor yX5_take.desc).map (fun d => d.parameters.length) = some 1 := by decide +kernel
abbrev rm_cProcessor_take : Room := { frames := 2, cells := 0, slots := 0, locals := 44 }
def cProcessor_take_b83 (st : CS) (x1 : Int32) : CS × Int32 := ((sB st 0 (vp_updL (gB st 0) (x1 &&& (7 : Int32)).toNatClampNeg (((gB st 0) (x1 &&& (7 : Int32)).toNatClampNeg) + (1 : Int64)))), (4 : Int32))
set_option maxHeartbeats 4000000 in
set_option maxRecDepth 100000 in
theorem k_cProcessor_take_b83 {p : Program} {l : Launch} {e : Env} {s : State} {m : MethodId} {args : Array Value} {below : List Frame} {meth : Method} {c : Code} {A : Nat → Prop} (g : Gm) (C : cX p s m args meth c A cX5_take (some .int) 5 RX5 wq_X5_take (gD g) vwCl (cty g) (cz g)) (st : CS) (x1 : Int32) (H : Heap) (locs : List Loc) (ls : Array Slot) (hI : cI (gD g) vwCl (cw g) A s st H locs) (hl : lv_has ls 5 [(0, .ref (gad g 19)), (1, .int x1)]) (X : CS × Int32) (hF : X = cProcessor_take_b83 st x1) : W p l e rm_cProcessor_take s m args below meth c H locs 0 0 (MQ below (cQi (gD g) vwCl (cty g) (cw g) A X.1 X.2) args s 0 0 A) (F0 m 83 ls []) := by
  obtain ⟨hx, hb, hr, hml, hown, hts, hlocks, hK, hA, hZ, hzo⟩ := id C
  unfold cProcessor_take_b83 at hF
  refine lv_aload_n hx hb dX5_take_83 rfl (lv_at hl 0 rfl) ?_
  refine va_get (D := gD g) (ci := 5) (C := RX5) (T := TX5) (N := 10) (v := .ref (gad g 20)) hx hb hts (fun w h => List.mem_cons_of_mem _ (isX50 w h)) hown hK hI.1 19 rfl rfl 3 (by decide) (hts _ (List.mem_cons_of_mem _ mw110)) (fun _ h9 => h9) rfl dX5_take_84 ?_
  refine lv_iload_n hx hb dX5_take_87 rfl (lv_at hl 1 rfl) ?_
  refine lv_bipush (v := (7 : Int32)) hx hb dX5_take_88 (by decide) ?_
  refine lv_iand hx hb dX5_take_90 ?_
  refine lv_dup2_11 hx hb dX5_take_91 rfl rfl ?_
  refine va_lald (f := (gB st 0)) hx hb hK hI.1 20 8 rfl rfl (vin_and _ 3 rfl (by decide) (by decide)) dX5_take_92 ?_
  refine lv_lconst (v := (1 : Int64)) hx hb dX5_take_93 (by decide) ?_
  refine lv_ladd hx hb dX5_take_94 ?_
  refine va_last (f := (gB st 0)) hx hb hK hI.1 hI.2.1 hI.2.2 20 8 rfl rfl (vin_and _ 3 rfl (by decide) (by decide)) dX5_take_95 (fun H locs hP hD hS => ?_)
  have hI : cI (gD g) vwCl (cw g) A s (sB st 0 (vp_updL (gB st 0) (x1 &&& (7 : Int32)).toNatClampNeg (((gB st 0) (x1 &&& (7 : Int32)).toNatClampNeg) + (1 : Int64)))) H locs := ⟨hP, hD, hS⟩
  refine lv_iconst (v := (4 : Int32)) hx hb dX5_take_96 (by decide) ?_
  exact cx_iret C hI (congrArg Prod.fst hF) (congrArg Prod.snd hF) dX5_take_97
def cProcessor_take_b68 (st : CS) (x1 : Int32) (x2 : Int32) (x4 : Int32) : CS × Int32 := (cProcessor_take_b83 (cRegisters_enter st x2 x4 (((4 : Int32) * x1) + (4 : Int32))) x1)
set_option maxHeartbeats 4000000 in
set_option maxRecDepth 100000 in
theorem k_cProcessor_take_b68 {p : Program} {l : Launch} {e : Env} {s : State} {m : MethodId} {args : Array Value} {below : List Frame} {meth : Method} {c : Code} {A : Nat → Prop} (g : Gm) (C : cX p s m args meth c A cX5_take (some .int) 5 RX5 wq_X5_take (gD g) vwCl (cty g) (cz g)) (st : CS) (x1 : Int32) (x2 : Int32) (x4 : Int32) (H : Heap) (locs : List Loc) (ls : Array Slot) (hI : cI (gD g) vwCl (cw g) A s st H locs) (hl : lv_has ls 5 [(0, .ref (gad g 19)), (1, .int x1), (2, .int x2), (4, .int x4)]) (X : CS × Int32) (hF : X = cProcessor_take_b68 st x1 x2 x4) : W p l e rm_cProcessor_take s m args below meth c H locs 0 0 (MQ below (cQi (gD g) vwCl (cty g) (cw g) A X.1 X.2) args s 0 0 A) (F0 m 68 ls []) := by
  obtain ⟨hx, hb, hr, hml, hown, hts, hlocks, hK, hA, hZ, hzo⟩ := id C
  unfold cProcessor_take_b68 at hF
  refine lv_aload_n hx hb dX5_take_68 rfl (lv_at hl 0 rfl) ?_
  refine va_get (D := gD g) (ci := 5) (C := RX5) (T := TX5) (N := 10) (v := .ref (gad g 2)) hx hb hts (fun w h => List.mem_cons_of_mem _ (isX50 w h)) hown hK hI.1 19 rfl rfl 0 (by decide) (hts _ (List.mem_cons_of_mem _ mw112)) (fun _ h9 => h9) rfl dX5_take_69 ?_
  refine lv_iload_n hx hb dX5_take_72 rfl (lv_at hl 2 rfl) ?_
  refine lv_iload hx hb dX5_take_73 (lv_at hl 3 rfl) ?_
  refine lv_iconst (v := (4 : Int32)) hx hb dX5_take_75 (by decide) ?_
  refine lv_iload_n hx hb dX5_take_76 rfl (lv_at hl 1 rfl) ?_
  refine lv_imul hx hb dX5_take_77 ?_
  refine lv_iconst (v := (4 : Int32)) hx hb dX5_take_78 (by decide) ?_
  refine lv_iadd hx hb dX5_take_79 ?_
  refine cx_Vv (As := [.int x2, .int x4, .int (((4 : Int32) * x1) + (4 : Int32))]) (rest := []) C (c_cRegisters_enter l g st x2 x4 (((4 : Int32) * x1) + (4 : Int32))) (cwV 3 hts (gd_V _ mw424 mw425 mw426 mw14 mw427) rfl rfl rfl yd_yX6_enter ⟨Nat.le_of_ble_eq_true rfl, Nat.le_of_ble_eq_true rfl⟩) (va_recv hK hI.1 (ci := 6) (q0 := 2) rfl rfl) hI rfl hl.1 rfl (Nat.le_of_ble_eq_true rfl) dX5_take_80 (fun H locs hI => ?_)
  exact k_cProcessor_take_b83 g C (cRegisters_enter st x2 x4 (((4 : Int32) * x1) + (4 : Int32))) x1 H locs ls hI (lv_sub hl [0, 1] rfl) X hF
def cProcessor_take_b51 (st : CS) (x1 : Int32) (x2 : Int32) (x3 : Int32) (y0 : Int32) : CS × Int32 := (cProcessor_take_b68 (cRegisters_become st x2 (14 : Int32) (cProcessor_withSigns st x3)) x1 x2 y0)
set_option maxHeartbeats 4000000 in
set_option maxRecDepth 100000 in
theorem k_cProcessor_take_b51 {p : Program} {l : Launch} {e : Env} {s : State} {m : MethodId} {args : Array Value} {below : List Frame} {meth : Method} {c : Code} {A : Nat → Prop} (g : Gm) (C : cX p s m args meth c A cX5_take (some .int) 5 RX5 wq_X5_take (gD g) vwCl (cty g) (cz g)) (st : CS) (x1 : Int32) (x2 : Int32) (x3 : Int32) (y0 : Int32) (H : Heap) (locs : List Loc) (ls : Array Slot) (hI : cI (gD g) vwCl (cw g) A s st H locs) (hl : lv_has ls 5 [(0, .ref (gad g 19)), (1, .int x1), (2, .int x2), (3, .int x3)]) (X : CS × Int32) (hF : X = cProcessor_take_b51 st x1 x2 x3 y0) : W p l e rm_cProcessor_take s m args below meth c H locs 0 0 (MQ below (cQi (gD g) vwCl (cty g) (cw g) A X.1 X.2) args s 0 0 A) (F0 m 51 ls [.int y0]) := by
  obtain ⟨hx, hb, hr, hml, hown, hts, hlocks, hK, hA, hZ, hzo⟩ := id C
  unfold cProcessor_take_b51 at hF
  refine lv_istore (lv' := [(4, .int y0), (0, .ref (gad g 19)), (1, .int x1), (2, .int x2), (3, .int x3)]) hx hb dX5_take_51 hl (by decide) rfl (fun ls hl => ?_)
  refine lv_aload_n hx hb dX5_take_53 rfl (lv_at hl 1 rfl) ?_
  refine va_get (D := gD g) (ci := 5) (C := RX5) (T := TX5) (N := 10) (v := .ref (gad g 2)) hx hb hts (fun w h => List.mem_cons_of_mem _ (isX50 w h)) hown hK hI.1 19 rfl rfl 0 (by decide) (hts _ (List.mem_cons_of_mem _ mw112)) (fun _ h9 => h9) rfl dX5_take_54 ?_
  refine lv_iload_n hx hb dX5_take_57 rfl (lv_at hl 3 rfl) ?_
  refine lv_bipush (v := (14 : Int32)) hx hb dX5_take_58 (by decide) ?_
  refine lv_aload_n hx hb dX5_take_60 rfl (lv_at hl 1 rfl) ?_
  refine lv_iload_n hx hb dX5_take_61 rfl (lv_at hl 4 rfl) ?_
  refine cx_Vi (As := [.int x3]) (rest := [.int (14 : Int32), .int x2, .ref (gad g 2)]) C (c_cProcessor_withSigns l g st x3) (cwV 1 hts (gd_V _ mw406 mw407 mw408 mw46 mw409) rfl rfl rfl yd_yX5_withSigns ⟨Nat.le_of_ble_eq_true rfl, Nat.le_of_ble_eq_true rfl⟩) (va_recv hK hI.1 (ci := 5) (q0 := 19) rfl rfl) hI rfl hl.1 rfl (Nat.le_of_ble_eq_true rfl) dX5_take_62 (fun H locs hI => ?_)
  refine cx_Vv (As := [.int x2, .int (14 : Int32), .int (cProcessor_withSigns st x3)]) (rest := []) C (c_cRegisters_become l g st x2 (14 : Int32) (cProcessor_withSigns st x3)) (cwV 3 hts (gd_V _ mw416 mw417 mw418 mw14 mw419) rfl rfl rfl yd_yX6_become ⟨Nat.le_of_ble_eq_true rfl, Nat.le_of_ble_eq_true rfl⟩) (va_recv hK hI.1 (ci := 6) (q0 := 2) rfl rfl) hI rfl hl.1 rfl (Nat.le_of_ble_eq_true rfl) dX5_take_65 (fun H locs hI => ?_)
  exact k_cProcessor_take_b68 g C (cRegisters_become st x2 (14 : Int32) (cProcessor_withSigns st x3)) x1 x2 y0 H locs ls hI (lv_sub hl [1, 2, 3, 0] rfl) X hF
def cProcessor_take_b37 (st : CS) (x1 : Int32) (x2 : Int32) (y0 : Int32) : CS × Int32 := (if (x1 = (6 : Int32)) then (cProcessor_take_b51 st x1 x2 y0 (201326592 : Int32)) else (cProcessor_take_b51 st x1 x2 y0 (134217728 : Int32)))
set_option maxHeartbeats 4000000 in
set_option maxRecDepth 100000 in
theorem k_cProcessor_take_b37 {p : Program} {l : Launch} {e : Env} {s : State} {m : MethodId} {args : Array Value} {below : List Frame} {meth : Method} {c : Code} {A : Nat → Prop} (g : Gm) (C : cX p s m args meth c A cX5_take (some .int) 5 RX5 wq_X5_take (gD g) vwCl (cty g) (cz g)) (st : CS) (x1 : Int32) (x2 : Int32) (y0 : Int32) (H : Heap) (locs : List Loc) (ls : Array Slot) (hI : cI (gD g) vwCl (cw g) A s st H locs) (hl : lv_has ls 5 [(0, .ref (gad g 19)), (1, .int x1), (2, .int x2)]) (X : CS × Int32) (hF : X = cProcessor_take_b37 st x1 x2 y0) : W p l e rm_cProcessor_take s m args below meth c H locs 0 0 (MQ below (cQi (gD g) vwCl (cty g) (cw g) A X.1 X.2) args s 0 0 A) (F0 m 37 ls [.int y0]) := by
  obtain ⟨hx, hb, hr, hml, hown, hts, hlocks, hK, hA, hZ, hzo⟩ := id C
  unfold cProcessor_take_b37 at hF
  refine lv_istore_n (lv' := [(3, .int y0), (0, .ref (gad g 19)), (1, .int x1), (2, .int x2)]) hx hb dX5_take_37 rfl hl (by decide) rfl (fun ls hl => ?_)
  refine lv_iload_n hx hb dX5_take_38 rfl (lv_at hl 2 rfl) ?_
  refine lv_bipush (v := (6 : Int32)) hx hb dX5_take_39 (by decide) ?_
  refine lv_icmp_ne (tgt := 49) hx hb dX5_take_41 (by decide) (fun c_41 => ?_) (fun c_41 => ?_)
  · have hF := hF.trans (if_neg c_41)
    refine lv_ldc (v := (134217728 : Int32)) hx hb hown (hts _ (List.mem_cons_of_mem _ mw310)) dX5_take_49 ?_
    exact k_cProcessor_take_b51 g C st x1 x2 y0 (134217728 : Int32) H locs ls hI (lv_sub hl [1, 2, 3, 0] rfl) X hF
  · have hF := hF.trans (if_pos c_41)
    refine lv_ldc (v := (201326592 : Int32)) hx hb hown (hts _ (List.mem_cons_of_mem _ mw405)) dX5_take_44 ?_
    refine lv_goto (tgt := 51) hx hb dX5_take_46 (by decide) ?_
    exact k_cProcessor_take_b51 g C st x1 x2 y0 (201326592 : Int32) H locs ls hI (lv_sub hl [1, 2, 3, 0] rfl) X hF
def cProcessor_take_b31 (st : CS) (x1 : Int32) (x2 : Int32) : CS × Int32 := (cProcessor_take_b37 st x1 x2 (8 : Int32))
set_option maxHeartbeats 4000000 in
set_option maxRecDepth 100000 in
theorem k_cProcessor_take_b31 {p : Program} {l : Launch} {e : Env} {s : State} {m : MethodId} {args : Array Value} {below : List Frame} {meth : Method} {c : Code} {A : Nat → Prop} (g : Gm) (C : cX p s m args meth c A cX5_take (some .int) 5 RX5 wq_X5_take (gD g) vwCl (cty g) (cz g)) (st : CS) (x1 : Int32) (x2 : Int32) (H : Heap) (locs : List Loc) (ls : Array Slot) (hI : cI (gD g) vwCl (cw g) A s st H locs) (hl : lv_has ls 5 [(0, .ref (gad g 19)), (1, .int x1), (2, .int x2)]) (X : CS × Int32) (hF : X = cProcessor_take_b31 st x1 x2) : W p l e rm_cProcessor_take s m args below meth c H locs 0 0 (MQ below (cQi (gD g) vwCl (cty g) (cw g) A X.1 X.2) args s 0 0 A) (F0 m 31 ls []) := by
  obtain ⟨hx, hb, hr, hml, hown, hts, hlocks, hK, hA, hZ, hzo⟩ := id C
  unfold cProcessor_take_b31 at hF
  refine lv_bipush (v := (8 : Int32)) hx hb dX5_take_31 (by decide) ?_
  refine lv_goto (tgt := 37) hx hb dX5_take_33 (by decide) ?_
  exact k_cProcessor_take_b37 g C st x1 x2 (8 : Int32) H locs ls hI (lv_sub hl [0, 1, 2] rfl) X hF
def cProcessor_take_b20 (st : CS) (x1 : Int32) (y0 : Int32) : CS × Int32 := (if (x1 = (3 : Int32)) then (cProcessor_take_b31 st x1 y0) else (if (x1 = (4 : Int32)) then (cProcessor_take_b31 st x1 y0) else (cProcessor_take_b37 st x1 y0 (4 : Int32))))
set_option maxHeartbeats 4000000 in
set_option maxRecDepth 100000 in
theorem k_cProcessor_take_b20 {p : Program} {l : Launch} {e : Env} {s : State} {m : MethodId} {args : Array Value} {below : List Frame} {meth : Method} {c : Code} {A : Nat → Prop} (g : Gm) (C : cX p s m args meth c A cX5_take (some .int) 5 RX5 wq_X5_take (gD g) vwCl (cty g) (cz g)) (st : CS) (x1 : Int32) (y0 : Int32) (H : Heap) (locs : List Loc) (ls : Array Slot) (hI : cI (gD g) vwCl (cw g) A s st H locs) (hl : lv_has ls 5 [(0, .ref (gad g 19)), (1, .int x1)]) (X : CS × Int32) (hF : X = cProcessor_take_b20 st x1 y0) : W p l e rm_cProcessor_take s m args below meth c H locs 0 0 (MQ below (cQi (gD g) vwCl (cty g) (cw g) A X.1 X.2) args s 0 0 A) (F0 m 20 ls [.int y0]) := by
  obtain ⟨hx, hb, hr, hml, hown, hts, hlocks, hK, hA, hZ, hzo⟩ := id C
  unfold cProcessor_take_b20 at hF
  refine lv_istore_n (lv' := [(2, .int y0), (0, .ref (gad g 19)), (1, .int x1)]) hx hb dX5_take_20 rfl hl (by decide) rfl (fun ls hl => ?_)
  refine lv_iload_n hx hb dX5_take_21 rfl (lv_at hl 2 rfl) ?_
  refine lv_iconst (v := (3 : Int32)) hx hb dX5_take_22 (by decide) ?_
  refine lv_icmp_eq (tgt := 31) hx hb dX5_take_23 (by decide) (fun c_23 => ?_) (fun c_23 => ?_)
  · have hF := hF.trans (if_pos c_23)
    exact k_cProcessor_take_b31 g C st x1 y0 H locs ls hI (lv_sub hl [1, 2, 0] rfl) X hF
  · have hF := hF.trans (if_neg c_23)
    refine lv_iload_n hx hb dX5_take_26 rfl (lv_at hl 2 rfl) ?_
    refine lv_iconst (v := (4 : Int32)) hx hb dX5_take_27 (by decide) ?_
    refine lv_icmp_ne (tgt := 36) hx hb dX5_take_28 (by decide) (fun c_28 => ?_) (fun c_28 => ?_)
    · have hF := hF.trans (if_neg c_28)
      refine lv_iconst (v := (4 : Int32)) hx hb dX5_take_36 (by decide) ?_
      exact k_cProcessor_take_b37 g C st x1 y0 (4 : Int32) H locs ls hI (lv_sub hl [1, 2, 0] rfl) X hF
    · have hF := hF.trans (if_pos c_28)
      exact k_cProcessor_take_b31 g C st x1 y0 H locs ls hI (lv_sub hl [1, 2, 0] rfl) X hF
def cProcessor_take (st : CS) (x1 : Int32) : CS × Int32 := (if (x1 = (5 : Int32)) then (cProcessor_take_b20 st x1 (2 : Int32)) else (if (x1 = (6 : Int32)) then (cProcessor_take_b20 st x1 (1 : Int32)) else (cProcessor_take_b20 st x1 (3 : Int32))))
set_option maxHeartbeats 4000000 in
set_option maxRecDepth 100000 in
theorem k_cProcessor_take {p : Program} {l : Launch} {e : Env} {s : State} {m : MethodId} {args : Array Value} {below : List Frame} {meth : Method} {c : Code} {A : Nat → Prop} (g : Gm) (C : cX p s m args meth c A cX5_take (some .int) 5 RX5 wq_X5_take (gD g) vwCl (cty g) (cz g)) (st : CS) (x1 : Int32) (H : Heap) (locs : List Loc) (ls : Array Slot) (hI : cI (gD g) vwCl (cw g) A s st H locs) (hl : lv_has ls 5 [(0, .ref (gad g 19)), (1, .int x1)]) (X : CS × Int32) (hF : X = cProcessor_take st x1) : W p l e rm_cProcessor_take s m args below meth c H locs 0 0 (MQ below (cQi (gD g) vwCl (cty g) (cw g) A X.1 X.2) args s 0 0 A) (F0 m 0 ls []) := by
  obtain ⟨hx, hb, hr, hml, hown, hts, hlocks, hK, hA, hZ, hzo⟩ := id C
  unfold cProcessor_take at hF
  refine lv_iload_n hx hb dX5_take_0 rfl (lv_at hl 1 rfl) ?_
  refine lv_iconst (v := (5 : Int32)) hx hb dX5_take_1 (by decide) ?_
  refine lv_icmp_ne (tgt := 9) hx hb dX5_take_2 (by decide) (fun c_2 => ?_) (fun c_2 => ?_)
  · have hF := hF.trans (if_neg c_2)
    refine lv_iload_n hx hb dX5_take_9 rfl (lv_at hl 1 rfl) ?_
    refine lv_bipush (v := (6 : Int32)) hx hb dX5_take_10 (by decide) ?_
    refine lv_icmp_ne (tgt := 19) hx hb dX5_take_12 (by decide) (fun c_12 => ?_) (fun c_12 => ?_)
    · have hF := hF.trans (if_neg c_12)
      refine lv_iconst (v := (3 : Int32)) hx hb dX5_take_19 (by decide) ?_
      exact k_cProcessor_take_b20 g C st x1 (3 : Int32) H locs ls hI (lv_sub hl [0, 1] rfl) X hF
    · have hF := hF.trans (if_pos c_12)
      refine lv_iconst (v := (1 : Int32)) hx hb dX5_take_15 (by decide) ?_
      refine lv_goto (tgt := 20) hx hb dX5_take_16 (by decide) ?_
      exact k_cProcessor_take_b20 g C st x1 (1 : Int32) H locs ls hI (lv_sub hl [0, 1] rfl) X hF
  · have hF := hF.trans (if_pos c_2)
    refine lv_iconst (v := (2 : Int32)) hx hb dX5_take_5 (by decide) ?_
    refine lv_goto (tgt := 20) hx hb dX5_take_6 (by decide) ?_
    exact k_cProcessor_take_b20 g C st x1 (2 : Int32) H locs ls hI (lv_sub hl [0, 1] rfl) X hF
set_option maxHeartbeats 4000000 in
set_option maxRecDepth 100000 in
theorem c_cProcessor_take (l : Launch) (g : Gm) (st : CS) (x1 : Int32) : Mi l yX5_take wq_X5_take rm_cProcessor_take (gD g) vwCl (cty g) (cw g) (cz g) [.ref (gad g 19), .int x1] st (cProcessor_take st x1).1 (cProcessor_take st x1).2 := by
  intro sz
  refine Met.ofW (cc := cX5_take) (maxL := 5) (ret := (some .int)) (by decide) rfl ?_
  intro p e s m args below meth c s₁ B hml hv
  obtain ⟨rfl, hsz, hP, hK, hD0, hZ⟩ := hv
  subst hsz
  have hl := lv_entry ([.ref (gad g 19), .int x1]) (n := 5) (Nat.le_of_ble_eq_true rfl)
  rw [lg_entry_eq]
  generalize (lg_sl ([.ref (gad g 19), .int x1]) ++ List.replicate (5 - (lg_sl ([.ref (gad g 19), .int x1])).length) Slot.unset).toArray = ls at hl ⊢
  exact k_cProcessor_take g ⟨B.exec, B.bytes, B.returns, hml, findClass_of_methodNamed B.named, atoms_spec (ws := wq_X5_take) B.pre, B.notSynchronized, hK, fun q h => Or.inr h, hZ, cz_ok g⟩ st x1 _ _ ls ⟨hP, hD0.self, va_S.rf⟩ hl _ rfl
abbrev wq_X5_part : List Cond := .code yX5_part cX5_part 2 (some .int) :: wAll
theorem yd_yX5_part : yX5_part.cls = RX5 ∧ yX5_part.cls ≠ "java/lang/invoke/MethodHandle" ∧ yX5_part.cls ≠ "java/lang/invoke/VarHandle" ∧ (parseMethodDescriptor yX5_part.desc).map (fun d => d.parameters.length) = some 1 := by decide +kernel
abbrev rm_cProcessor_part : Room := { frames := 0, cells := 0, slots := 0, locals := 0 }
def cProcessor_part (st : CS) (x1 : Int32) : Int32 := ((ushr (gI st 32) x1) &&& (15 : Int32))
set_option maxHeartbeats 4000000 in
set_option maxRecDepth 100000 in
theorem k_cProcessor_part {p : Program} {l : Launch} {e : Env} {s : State} {m : MethodId} {args : Array Value} {below : List Frame} {meth : Method} {c : Code} {A : Nat → Prop} (g : Gm) (C : cX p s m args meth c A cX5_part (some .int) 2 RX5 wq_X5_part (gD g) vwCl (cty g) (cz g)) (st : CS) (x1 : Int32) (H : Heap) (locs : List Loc) (ls : Array Slot) (hI : cI (gD g) vwCl (cw g) A s st H locs) (hl : lv_has ls 2 [(0, .ref (gad g 19)), (1, .int x1)]) (X : Int32) (hF : X = cProcessor_part st x1) : W p l e rm_cProcessor_part s m args below meth c H locs 0 0 (MQ below (cQi (gD g) vwCl (cty g) (cw g) A st X) args s 0 0 A) (F0 m 0 ls []) := by
  obtain ⟨hx, hb, hr, hml, hown, hts, hlocks, hK, hA, hZ, hzo⟩ := id C
  unfold cProcessor_part at hF
  refine lv_aload_n hx hb dX5_part_0 rfl (lv_at hl 0 rfl) ?_
  refine va_get (D := gD g) (ci := 5) (C := RX5) (T := TX5) (N := 10) (v := .int (gI st 32)) hx hb hts (fun w h => List.mem_cons_of_mem _ (isX50 w h)) hown hK hI.1 19 rfl rfl 6 (by decide) (hts _ (List.mem_cons_of_mem _ mw311)) (fun _ h9 => h9) rfl dX5_part_1 ?_
  refine lv_iload_n hx hb dX5_part_4 rfl (lv_at hl 1 rfl) ?_
  refine lv_iushr (v := (ushr (gI st 32) x1)) hx hb dX5_part_5 rfl ?_
  refine lv_bipush (v := (15 : Int32)) hx hb dX5_part_6 (by decide) ?_
  refine lv_iand hx hb dX5_part_8 ?_
  exact cx_iret C hI rfl hF dX5_part_9
set_option maxHeartbeats 4000000 in
set_option maxRecDepth 100000 in
theorem c_cProcessor_part (l : Launch) (g : Gm) (st : CS) (x1 : Int32) : Mi l yX5_part wq_X5_part rm_cProcessor_part (gD g) vwCl (cty g) (cw g) (cz g) [.ref (gad g 19), .int x1] st st (cProcessor_part st x1) := by
  intro sz
  refine Met.ofW (cc := cX5_part) (maxL := 2) (ret := (some .int)) (by decide) rfl ?_
  intro p e s m args below meth c s₁ B hml hv
  obtain ⟨rfl, hsz, hP, hK, hD0, hZ⟩ := hv
  subst hsz
  have hl := lv_entry ([.ref (gad g 19), .int x1]) (n := 2) (Nat.le_of_ble_eq_true rfl)
  rw [lg_entry_eq]
  generalize (lg_sl ([.ref (gad g 19), .int x1]) ++ List.replicate (2 - (lg_sl ([.ref (gad g 19), .int x1])).length) Slot.unset).toArray = ls at hl ⊢
  exact k_cProcessor_part g ⟨B.exec, B.bytes, B.returns, hml, findClass_of_methodNamed B.named, atoms_spec (ws := wq_X5_part) B.pre, B.notSynchronized, hK, fun q h => Or.inr h, hZ, cz_ok g⟩ st x1 _ _ ls ⟨hP, hD0.self, va_S.rf⟩ hl _ rfl
abbrev wq_X5_is : List Cond := .code yX5_is cX5_is 2 (some .boolean) :: wAll
theorem yd_yX5_is : yX5_is.cls = RX5 ∧ yX5_is.cls ≠ "java/lang/invoke/MethodHandle" ∧ yX5_is.cls ≠ "java/lang/invoke/VarHandle" ∧ (parseMethodDescriptor yX5_is.desc).map (fun d => d.parameters.length) = some 1 := by decide +kernel
abbrev rm_cProcessor_is : Room := { frames := 0, cells := 0, slots := 0, locals := 0 }
def cProcessor_is (st : CS) (x1 : Int32) : Int32 := (if (((gI st 32) &&& x1) = 0) then (0 : Int32) else (1 : Int32))
set_option maxHeartbeats 4000000 in
set_option maxRecDepth 100000 in
theorem k_cProcessor_is {p : Program} {l : Launch} {e : Env} {s : State} {m : MethodId} {args : Array Value} {below : List Frame} {meth : Method} {c : Code} {A : Nat → Prop} (g : Gm) (C : cX p s m args meth c A cX5_is (some .boolean) 2 RX5 wq_X5_is (gD g) vwCl (cty g) (cz g)) (st : CS) (x1 : Int32) (H : Heap) (locs : List Loc) (ls : Array Slot) (hI : cI (gD g) vwCl (cw g) A s st H locs) (hl : lv_has ls 2 [(0, .ref (gad g 19)), (1, .int x1)]) (X : Int32) (hF : X = cProcessor_is st x1) : W p l e rm_cProcessor_is s m args below meth c H locs 0 0 (MQ below (cQi (gD g) vwCl (cty g) (cw g) A st X) args s 0 0 A) (F0 m 0 ls []) := by
  obtain ⟨hx, hb, hr, hml, hown, hts, hlocks, hK, hA, hZ, hzo⟩ := id C
  unfold cProcessor_is at hF
  refine lv_aload_n hx hb dX5_is_0 rfl (lv_at hl 0 rfl) ?_
  refine va_get (D := gD g) (ci := 5) (C := RX5) (T := TX5) (N := 10) (v := .int (gI st 32)) hx hb hts (fun w h => List.mem_cons_of_mem _ (isX50 w h)) hown hK hI.1 19 rfl rfl 6 (by decide) (hts _ (List.mem_cons_of_mem _ mw311)) (fun _ h9 => h9) rfl dX5_is_1 ?_
  refine lv_iload_n hx hb dX5_is_4 rfl (lv_at hl 1 rfl) ?_
  refine lv_iand hx hb dX5_is_5 ?_
  refine lv_if_eq (tgt := 13) hx hb dX5_is_6 (by decide) (fun c_6 => ?_) (fun c_6 => ?_)
  · have hF := hF.trans (if_pos c_6)
    refine lv_iconst (v := (0 : Int32)) hx hb dX5_is_13 (by decide) ?_
    exact cx_zret C hI rfl hF rfl dX5_is_14
  · have hF := hF.trans (if_neg c_6)
    refine lv_iconst (v := (1 : Int32)) hx hb dX5_is_9 (by decide) ?_
    refine lv_goto (tgt := 14) hx hb dX5_is_10 (by decide) ?_
    exact cx_zret C hI rfl hF rfl dX5_is_14
set_option maxHeartbeats 4000000 in
set_option maxRecDepth 100000 in
theorem c_cProcessor_is (l : Launch) (g : Gm) (st : CS) (x1 : Int32) : Mi l yX5_is wq_X5_is rm_cProcessor_is (gD g) vwCl (cty g) (cw g) (cz g) [.ref (gad g 19), .int x1] st st (cProcessor_is st x1) := by
  intro sz
  refine Met.ofW (cc := cX5_is) (maxL := 2) (ret := (some .boolean)) (by decide) rfl ?_
  intro p e s m args below meth c s₁ B hml hv
  obtain ⟨rfl, hsz, hP, hK, hD0, hZ⟩ := hv
  subst hsz
  have hl := lv_entry ([.ref (gad g 19), .int x1]) (n := 2) (Nat.le_of_ble_eq_true rfl)
  rw [lg_entry_eq]
  generalize (lg_sl ([.ref (gad g 19), .int x1]) ++ List.replicate (2 - (lg_sl ([.ref (gad g 19), .int x1])).length) Slot.unset).toArray = ls at hl ⊢
  exact k_cProcessor_is g ⟨B.exec, B.bytes, B.returns, hml, findClass_of_methodNamed B.named, atoms_spec (ws := wq_X5_is) B.pre, B.notSynchronized, hK, fun q h => Or.inr h, hZ, cz_ok g⟩ st x1 _ _ ls ⟨hP, hD0.self, va_S.rf⟩ hl _ rfl
abbrev wq_X5_turned : List Cond := .code yX5_turned cX5_turned 2 (some .int) :: wAll
theorem yd_yX5_turned : yX5_turned.cls ≠ "java/lang/invoke/MethodHandle" ∧ yX5_turned.cls ≠ "java/lang/invoke/VarHandle" ∧ (parseMethodDescriptor yX5_turned.desc).map (fun d => d.parameters.length) = some 2 := by decide +kernel
abbrev rm_cProcessor_turned : Room := { frames := 0, cells := 0, slots := 0, locals := 0 }
def cProcessor_turned (x0 : Int32) (x1 : Int32) : Int32 := (if (x1 = 0) then x0 else ((ushr x0 x1) ||| (x0 <<< (((32 : Int32) - x1) &&& 31))))
set_option maxHeartbeats 4000000 in
set_option maxRecDepth 100000 in
theorem k_cProcessor_turned {p : Program} {l : Launch} {e : Env} {s : State} {m : MethodId} {args : Array Value} {below : List Frame} {meth : Method} {c : Code} {A : Nat → Prop} (g : Gm) (C : cX p s m args meth c A cX5_turned (some .int) 2 RX5 wq_X5_turned (gD g) vwCl (cty g) (cz g)) (st : CS) (x0 : Int32) (x1 : Int32) (H : Heap) (locs : List Loc) (ls : Array Slot) (hI : cI (gD g) vwCl (cw g) A s st H locs) (hl : lv_has ls 2 [(0, .int x0), (1, .int x1)]) (X : Int32) (hF : X = cProcessor_turned x0 x1) : W p l e rm_cProcessor_turned s m args below meth c H locs 0 0 (MQ below (cQi (gD g) vwCl (cty g) (cw g) A st X) args s 0 0 A) (F0 m 0 ls []) := by
  obtain ⟨hx, hb, hr, hml, hown, hts, hlocks, hK, hA, hZ, hzo⟩ := id C
  unfold cProcessor_turned at hF
  refine lv_iload_n hx hb dX5_turned_0 rfl (lv_at hl 1 rfl) ?_
  refine lv_if_ne (tgt := 8) hx hb dX5_turned_1 (by decide) (fun c_1 => ?_) (fun c_1 => ?_)
  · have hF := hF.trans (if_neg c_1)
    refine lv_iload_n hx hb dX5_turned_8 rfl (lv_at hl 0 rfl) ?_
    refine lv_iload_n hx hb dX5_turned_9 rfl (lv_at hl 1 rfl) ?_
    refine lv_iushr (v := (ushr x0 x1)) hx hb dX5_turned_10 rfl ?_
    refine lv_iload_n hx hb dX5_turned_11 rfl (lv_at hl 0 rfl) ?_
    refine lv_bipush (v := (32 : Int32)) hx hb dX5_turned_12 (by decide) ?_
    refine lv_iload_n hx hb dX5_turned_14 rfl (lv_at hl 1 rfl) ?_
    refine lv_isub hx hb dX5_turned_15 ?_
    refine lv_ishl hx hb dX5_turned_16 ?_
    refine lv_ior hx hb dX5_turned_17 ?_
    exact cx_iret C hI rfl hF dX5_turned_18
  · have hF := hF.trans (if_pos c_1)
    refine lv_iload_n hx hb dX5_turned_4 rfl (lv_at hl 0 rfl) ?_
    refine lv_goto (tgt := 18) hx hb dX5_turned_5 (by decide) ?_
    exact cx_iret C hI rfl hF dX5_turned_18
set_option maxHeartbeats 4000000 in
set_option maxRecDepth 100000 in
theorem c_cProcessor_turned (l : Launch) (g : Gm) (st : CS) (x0 : Int32) (x1 : Int32) : Mi l yX5_turned wq_X5_turned rm_cProcessor_turned (gD g) vwCl (cty g) (cw g) (cz g) [.int x0, .int x1] st st (cProcessor_turned x0 x1) := by
  intro sz
  refine Met.ofW (cc := cX5_turned) (maxL := 2) (ret := (some .int)) (by decide) rfl ?_
  intro p e s m args below meth c s₁ B hml hv
  obtain ⟨rfl, hsz, hP, hK, hD0, hZ⟩ := hv
  subst hsz
  have hl := lv_entry ([.int x0, .int x1]) (n := 2) (Nat.le_of_ble_eq_true rfl)
  rw [lg_entry_eq]
  generalize (lg_sl ([.int x0, .int x1]) ++ List.replicate (2 - (lg_sl ([.int x0, .int x1])).length) Slot.unset).toArray = ls at hl ⊢
  exact k_cProcessor_turned g ⟨B.exec, B.bytes, B.returns, hml, findClass_of_methodNamed B.named, atoms_spec (ws := wq_X5_turned) B.pre, B.notSynchronized, hK, fun q h => Or.inr h, hZ, cz_ok g⟩ st x0 x1 _ _ ls ⟨hP, hD0.self, va_S.rf⟩ hl _ rfl
abbrev wq_X5_turnedByte : List Cond := .code yX5_turnedByte cX5_turnedByte 3 (some .int) :: wAll
theorem yd_yX5_turnedByte : yX5_turnedByte.cls = RX5 ∧ yX5_turnedByte.cls ≠ "java/lang/invoke/MethodHandle" ∧ yX5_turnedByte.cls ≠ "java/lang/invoke/VarHandle" ∧ (parseMethodDescriptor yX5_turnedByte.desc).map (fun d => d.parameters.length) = some 0 := by decide +kernel
abbrev rm_cProcessor_turnedByte : Room := { frames := 1, cells := 0, slots := 0, locals := 21 }
def cProcessor_turnedByte_b41 (st : CS) (x2 : Int32) (y0 : Int32) : CS × Int32 := ((sI st 33 y0), x2)
set_option maxHeartbeats 4000000 in
set_option maxRecDepth 100000 in
theorem k_cProcessor_turnedByte_b41 {p : Program} {l : Launch} {e : Env} {s : State} {m : MethodId} {args : Array Value} {below : List Frame} {meth : Method} {c : Code} {A : Nat → Prop} (g : Gm) (C : cX p s m args meth c A cX5_turnedByte (some .int) 3 RX5 wq_X5_turnedByte (gD g) vwCl (cty g) (cz g)) (st : CS) (x2 : Int32) (y0 : Int32) (H : Heap) (locs : List Loc) (ls : Array Slot) (hI : cI (gD g) vwCl (cw g) A s st H locs) (hl : lv_has ls 3 [(0, .ref (gad g 19)), (2, .int x2)]) (X : CS × Int32) (hF : X = cProcessor_turnedByte_b41 st x2 y0) : W p l e rm_cProcessor_turnedByte s m args below meth c H locs 0 0 (MQ below (cQi (gD g) vwCl (cty g) (cw g) A X.1 X.2) args s 0 0 A) (F0 m 41 ls [.int y0, .ref (gad g 19)]) := by
  obtain ⟨hx, hb, hr, hml, hown, hts, hlocks, hK, hA, hZ, hzo⟩ := id C
  unfold cProcessor_turnedByte_b41 at hF
  refine va_put (D := gD g) (ci := 5) (C := RX5) (T := TX5) (N := 10) (v := .int y0) (ty := .int) hx hb hts (fun w h => List.mem_cons_of_mem _ (isX50 w h)) tyX5 tyX5_ok nmX5 hown hK hI.1 hI.2.1 hI.2.2 19 rfl rfl 7 (by decide) (hts _ (List.mem_cons_of_mem _ mw432)) (fun _ h9 => h9) rfl (by decide +kernel) rfl rfl (Nat.le_of_ble_eq_true rfl) dX5_turnedByte_41 (fun H locs hP hD hS => ?_)
  have hI : cI (gD g) vwCl (cw g) A s (sI st 33 y0) H locs := ⟨hP, hD, hS⟩
  refine lv_iload_n hx hb dX5_turnedByte_44 rfl (lv_at hl 1 rfl) ?_
  exact cx_iret C hI (congrArg Prod.fst hF) (congrArg Prod.snd hF) dX5_turnedByte_45
def cProcessor_turnedByte (st : CS) : CS × Int32 := (if (((2 : Int32) * (cProcessor_part st (8 : Int32))) = 0) then (cProcessor_turnedByte_b41 st (cProcessor_turned ((gI st 32) &&& (255 : Int32)) ((2 : Int32) * (cProcessor_part st (8 : Int32)))) (cRegisters_carry st)) else (cProcessor_turnedByte_b41 st (cProcessor_turned ((gI st 32) &&& (255 : Int32)) ((2 : Int32) * (cProcessor_part st (8 : Int32)))) (ushr (cProcessor_turned ((gI st 32) &&& (255 : Int32)) ((2 : Int32) * (cProcessor_part st (8 : Int32)))) (31 : Int32))))
set_option maxHeartbeats 4000000 in
set_option maxRecDepth 100000 in
theorem k_cProcessor_turnedByte {p : Program} {l : Launch} {e : Env} {s : State} {m : MethodId} {args : Array Value} {below : List Frame} {meth : Method} {c : Code} {A : Nat → Prop} (g : Gm) (C : cX p s m args meth c A cX5_turnedByte (some .int) 3 RX5 wq_X5_turnedByte (gD g) vwCl (cty g) (cz g)) (st : CS) (H : Heap) (locs : List Loc) (ls : Array Slot) (hI : cI (gD g) vwCl (cw g) A s st H locs) (hl : lv_has ls 3 [(0, .ref (gad g 19))]) (X : CS × Int32) (hF : X = cProcessor_turnedByte st) : W p l e rm_cProcessor_turnedByte s m args below meth c H locs 0 0 (MQ below (cQi (gD g) vwCl (cty g) (cw g) A X.1 X.2) args s 0 0 A) (F0 m 0 ls []) := by
  obtain ⟨hx, hb, hr, hml, hown, hts, hlocks, hK, hA, hZ, hzo⟩ := id C
  unfold cProcessor_turnedByte at hF
  refine lv_iconst (v := (2 : Int32)) hx hb dX5_turnedByte_0 (by decide) ?_
  refine lv_aload_n hx hb dX5_turnedByte_1 rfl (lv_at hl 0 rfl) ?_
  refine lv_bipush (v := (8 : Int32)) hx hb dX5_turnedByte_2 (by decide) ?_
  refine cx_Vi (As := [.int (8 : Int32)]) (rest := [.int (2 : Int32)]) C (c_cProcessor_part l g st (8 : Int32)) (cwV 1 hts (gd_V _ mw393 mw394 mw395 mw46 mw396) rfl rfl rfl yd_yX5_part ⟨Nat.le_of_ble_eq_true rfl, Nat.le_of_ble_eq_true rfl⟩) (va_recv hK hI.1 (ci := 5) (q0 := 19) rfl rfl) hI rfl hl.1 rfl (Nat.le_of_ble_eq_true rfl) dX5_turnedByte_4 (fun H locs hI => ?_)
  refine lv_imul hx hb dX5_turnedByte_7 ?_
  refine lv_istore_n (lv' := [(1, .int ((2 : Int32) * (cProcessor_part st (8 : Int32)))), (0, .ref (gad g 19))]) hx hb dX5_turnedByte_8 rfl hl (by decide) rfl (fun ls hl => ?_)
  refine lv_aload_n hx hb dX5_turnedByte_9 rfl (lv_at hl 1 rfl) ?_
  refine va_get (D := gD g) (ci := 5) (C := RX5) (T := TX5) (N := 10) (v := .int (gI st 32)) hx hb hts (fun w h => List.mem_cons_of_mem _ (isX50 w h)) hown hK hI.1 19 rfl rfl 6 (by decide) (hts _ (List.mem_cons_of_mem _ mw311)) (fun _ h9 => h9) rfl dX5_turnedByte_10 ?_
  refine lv_sipush (v := (255 : Int32)) hx hb dX5_turnedByte_13 (by decide) ?_
  refine lv_iand hx hb dX5_turnedByte_16 ?_
  refine lv_iload_n hx hb dX5_turnedByte_17 rfl (lv_at hl 0 rfl) ?_
  refine cx_Si (As := [.int ((gI st 32) &&& (255 : Int32)), .int ((2 : Int32) * (cProcessor_part st (8 : Int32)))]) (rest := []) C (c_cProcessor_turned l g st ((gI st 32) &&& (255 : Int32)) ((2 : Int32) * (cProcessor_part st (8 : Int32)))) (va_cwS 2 hts (gd_S _ mw433 mw434 mw46 mw435) rfl rfl rfl yd_yX5_turned ⟨Nat.le_of_ble_eq_true rfl, Nat.le_of_ble_eq_true rfl⟩) hI rfl hl.1 rfl (Nat.le_of_ble_eq_true rfl) dX5_turnedByte_18 (fun H locs hI => ?_)
  refine lv_istore_n (lv' := [(2, .int (cProcessor_turned ((gI st 32) &&& (255 : Int32)) ((2 : Int32) * (cProcessor_part st (8 : Int32))))), (1, .int ((2 : Int32) * (cProcessor_part st (8 : Int32)))), (0, .ref (gad g 19))]) hx hb dX5_turnedByte_21 rfl hl (by decide) rfl (fun ls hl => ?_)
  refine lv_aload_n hx hb dX5_turnedByte_22 rfl (lv_at hl 2 rfl) ?_
  refine lv_iload_n hx hb dX5_turnedByte_23 rfl (lv_at hl 1 rfl) ?_
  refine lv_if_ne (tgt := 37) hx hb dX5_turnedByte_24 (by decide) (fun c_24 => ?_) (fun c_24 => ?_)
  · have hF := hF.trans (if_neg c_24)
    refine lv_iload_n hx hb dX5_turnedByte_37 rfl (lv_at hl 0 rfl) ?_
    refine lv_bipush (v := (31 : Int32)) hx hb dX5_turnedByte_38 (by decide) ?_
    refine lv_iushr (v := (ushr (cProcessor_turned ((gI st 32) &&& (255 : Int32)) ((2 : Int32) * (cProcessor_part st (8 : Int32)))) (31 : Int32))) hx hb dX5_turnedByte_40 rfl ?_
    exact k_cProcessor_turnedByte_b41 g C st (cProcessor_turned ((gI st 32) &&& (255 : Int32)) ((2 : Int32) * (cProcessor_part st (8 : Int32)))) (ushr (cProcessor_turned ((gI st 32) &&& (255 : Int32)) ((2 : Int32) * (cProcessor_part st (8 : Int32)))) (31 : Int32)) H locs ls hI (lv_sub hl [2, 0] rfl) X hF
  · have hF := hF.trans (if_pos c_24)
    refine lv_aload_n hx hb dX5_turnedByte_27 rfl (lv_at hl 2 rfl) ?_
    refine va_get (D := gD g) (ci := 5) (C := RX5) (T := TX5) (N := 10) (v := .ref (gad g 2)) hx hb hts (fun w h => List.mem_cons_of_mem _ (isX50 w h)) hown hK hI.1 19 rfl rfl 0 (by decide) (hts _ (List.mem_cons_of_mem _ mw112)) (fun _ h9 => h9) rfl dX5_turnedByte_28 ?_
    refine cx_Vi (As := []) (rest := [.ref (gad g 19)]) C (c_cRegisters_carry l g st ) (cwV 0 hts (gd_V _ mw436 mw437 mw438 mw14 mw439) rfl rfl rfl yd_yX6_carry ⟨Nat.le_of_ble_eq_true rfl, Nat.le_of_ble_eq_true rfl⟩) (va_recv hK hI.1 (ci := 6) (q0 := 2) rfl rfl) hI rfl hl.1 rfl (Nat.le_of_ble_eq_true rfl) dX5_turnedByte_31 (fun H locs hI => ?_)
    refine lv_goto (tgt := 41) hx hb dX5_turnedByte_34 (by decide) ?_
    exact k_cProcessor_turnedByte_b41 g C st (cProcessor_turned ((gI st 32) &&& (255 : Int32)) ((2 : Int32) * (cProcessor_part st (8 : Int32)))) (cRegisters_carry st) H locs ls hI (lv_sub hl [2, 0] rfl) X hF
set_option maxHeartbeats 4000000 in
set_option maxRecDepth 100000 in
theorem c_cProcessor_turnedByte (l : Launch) (g : Gm) (st : CS) : Mi l yX5_turnedByte wq_X5_turnedByte rm_cProcessor_turnedByte (gD g) vwCl (cty g) (cw g) (cz g) [.ref (gad g 19)] st (cProcessor_turnedByte st).1 (cProcessor_turnedByte st).2 := by
  intro sz
  refine Met.ofW (cc := cX5_turnedByte) (maxL := 3) (ret := (some .int)) (by decide) rfl ?_
  intro p e s m args below meth c s₁ B hml hv
  obtain ⟨rfl, hsz, hP, hK, hD0, hZ⟩ := hv
  subst hsz
  have hl := lv_entry ([.ref (gad g 19)]) (n := 3) (Nat.le_of_ble_eq_true rfl)
  rw [lg_entry_eq]
  generalize (lg_sl ([.ref (gad g 19)]) ++ List.replicate (3 - (lg_sl ([.ref (gad g 19)])).length) Slot.unset).toArray = ls at hl ⊢
  exact k_cProcessor_turnedByte g ⟨B.exec, B.bytes, B.returns, hml, findClass_of_methodNamed B.named, atoms_spec (ws := wq_X5_turnedByte) B.pre, B.notSynchronized, hK, fun q h => Or.inr h, hZ, cz_ok g⟩ st  _ _ ls ⟨hP, hD0.self, va_S.rf⟩ hl _ rfl
abbrev wq_X5_operand : List Cond := .code yX5_operand cX5_operand 3 (some .int) :: wAll
theorem yd_yX5_operand : yX5_operand.cls = RX5 ∧ yX5_operand.cls ≠ "java/lang/invoke/MethodHandle" ∧ yX5_operand.cls ≠ "java/lang/invoke/VarHandle" ∧ (parseMethodDescriptor yX5_operand.desc).map (fun d => d.parameters.length) = some 2 := by decide +kernel
abbrev rm_cProcessor_operand : Room := { frames := 2, cells := 0, slots := 0, locals := 43 }
def cProcessor_operand (st : CS) (x1 : Int32) (x2 : Int32) : Int32 := (if (x1 = (15 : Int32)) then (cProcessor_pcAhead st x2) else (cRegisters_of st (cRegisters_mode st) x1))
set_option maxHeartbeats 4000000 in
set_option maxRecDepth 100000 in
theorem k_cProcessor_operand {p : Program} {l : Launch} {e : Env} {s : State} {m : MethodId} {args : Array Value} {below : List Frame} {meth : Method} {c : Code} {A : Nat → Prop} (g : Gm) (C : cX p s m args meth c A cX5_operand (some .int) 3 RX5 wq_X5_operand (gD g) vwCl (cty g) (cz g)) (st : CS) (x1 : Int32) (x2 : Int32) (H : Heap) (locs : List Loc) (ls : Array Slot) (hI : cI (gD g) vwCl (cw g) A s st H locs) (hl : lv_has ls 3 [(0, .ref (gad g 19)), (1, .int x1), (2, .int x2)]) (X : Int32) (hF : X = cProcessor_operand st x1 x2) : W p l e rm_cProcessor_operand s m args below meth c H locs 0 0 (MQ below (cQi (gD g) vwCl (cty g) (cw g) A st X) args s 0 0 A) (F0 m 0 ls []) := by
  obtain ⟨hx, hb, hr, hml, hown, hts, hlocks, hK, hA, hZ, hzo⟩ := id C
  unfold cProcessor_operand at hF
  refine lv_iload_n hx hb dX5_operand_0 rfl (lv_at hl 1 rfl) ?_
  refine lv_bipush (v := (15 : Int32)) hx hb dX5_operand_1 (by decide) ?_
  refine lv_icmp_ne (tgt := 14) hx hb dX5_operand_3 (by decide) (fun c_3 => ?_) (fun c_3 => ?_)
  · have hF := hF.trans (if_neg c_3)
    refine lv_aload_n hx hb dX5_operand_14 rfl (lv_at hl 0 rfl) ?_
    refine va_get (D := gD g) (ci := 5) (C := RX5) (T := TX5) (N := 10) (v := .ref (gad g 2)) hx hb hts (fun w h => List.mem_cons_of_mem _ (isX50 w h)) hown hK hI.1 19 rfl rfl 0 (by decide) (hts _ (List.mem_cons_of_mem _ mw112)) (fun _ h9 => h9) rfl dX5_operand_15 ?_
    refine lv_aload_n hx hb dX5_operand_18 rfl (lv_at hl 0 rfl) ?_
    refine va_get (D := gD g) (ci := 5) (C := RX5) (T := TX5) (N := 10) (v := .ref (gad g 2)) hx hb hts (fun w h => List.mem_cons_of_mem _ (isX50 w h)) hown hK hI.1 19 rfl rfl 0 (by decide) (hts _ (List.mem_cons_of_mem _ mw112)) (fun _ h9 => h9) rfl dX5_operand_19 ?_
    refine cx_Vi (As := []) (rest := [.ref (gad g 2)]) C (c_cRegisters_mode l g st ) (cwV 0 hts (gd_V _ mw329 mw330 mw331 mw14 mw332) rfl rfl rfl yd_yX6_mode ⟨Nat.le_of_ble_eq_true rfl, Nat.le_of_ble_eq_true rfl⟩) (va_recv hK hI.1 (ci := 6) (q0 := 2) rfl rfl) hI rfl hl.1 rfl (Nat.le_of_ble_eq_true rfl) dX5_operand_22 (fun H locs hI => ?_)
    refine lv_iload_n hx hb dX5_operand_25 rfl (lv_at hl 1 rfl) ?_
    refine cx_Vi (As := [.int (cRegisters_mode st), .int x1]) (rest := []) C (c_cRegisters_of l g st (cRegisters_mode st) x1) (cwV 2 hts (gd_V _ mw448 mw449 mw450 mw14 mw451) rfl rfl rfl yd_yX6_of ⟨Nat.le_of_ble_eq_true rfl, Nat.le_of_ble_eq_true rfl⟩) (va_recv hK hI.1 (ci := 6) (q0 := 2) rfl rfl) hI rfl hl.1 rfl (Nat.le_of_ble_eq_true rfl) dX5_operand_26 (fun H locs hI => ?_)
    exact cx_iret C hI rfl hF dX5_operand_29
  · have hF := hF.trans (if_pos c_3)
    refine lv_aload_n hx hb dX5_operand_6 rfl (lv_at hl 0 rfl) ?_
    refine lv_iload_n hx hb dX5_operand_7 rfl (lv_at hl 2 rfl) ?_
    refine cx_Vi (As := [.int x2]) (rest := []) C (c_cProcessor_pcAhead l g st x2) (cwV 1 hts (gd_V _ mw411 mw412 mw413 mw46 mw414) rfl rfl rfl yd_yX5_pcAhead ⟨Nat.le_of_ble_eq_true rfl, Nat.le_of_ble_eq_true rfl⟩) (va_recv hK hI.1 (ci := 5) (q0 := 19) rfl rfl) hI rfl hl.1 rfl (Nat.le_of_ble_eq_true rfl) dX5_operand_8 (fun H locs hI => ?_)
    refine lv_goto (tgt := 29) hx hb dX5_operand_11 (by decide) ?_
    exact cx_iret C hI rfl hF dX5_operand_29
set_option maxHeartbeats 4000000 in
set_option maxRecDepth 100000 in
theorem c_cProcessor_operand (l : Launch) (g : Gm) (st : CS) (x1 : Int32) (x2 : Int32) : Mi l yX5_operand wq_X5_operand rm_cProcessor_operand (gD g) vwCl (cty g) (cw g) (cz g) [.ref (gad g 19), .int x1, .int x2] st st (cProcessor_operand st x1 x2) := by
  intro sz
  refine Met.ofW (cc := cX5_operand) (maxL := 3) (ret := (some .int)) (by decide) rfl ?_
  intro p e s m args below meth c s₁ B hml hv
  obtain ⟨rfl, hsz, hP, hK, hD0, hZ⟩ := hv
  subst hsz
  have hl := lv_entry ([.ref (gad g 19), .int x1, .int x2]) (n := 3) (Nat.le_of_ble_eq_true rfl)
  rw [lg_entry_eq]
  generalize (lg_sl ([.ref (gad g 19), .int x1, .int x2]) ++ List.replicate (3 - (lg_sl ([.ref (gad g 19), .int x1, .int x2])).length) Slot.unset).toArray = ls at hl ⊢
  exact k_cProcessor_operand g ⟨B.exec, B.bytes, B.returns, hml, findClass_of_methodNamed B.named, atoms_spec (ws := wq_X5_operand) B.pre, B.notSynchronized, hK, fun q h => Or.inr h, hZ, cz_ok g⟩ st x1 x2 _ _ ls ⟨hP, hD0.self, va_S.rf⟩ hl _ rfl
abbrev wq_X5_shifted : List Cond := .code yX5_shifted cX5_shifted 5 (some .int) :: wAll
theorem yd_yX5_shifted : yX5_shifted.cls = RX5 ∧ yX5_shifted.cls ≠ "java/lang/invoke/MethodHandle" ∧ yX5_shifted.cls ≠ "java/lang/invoke/VarHandle" ∧ (parseMethodDescriptor yX5_shifted.desc).map (fun d => d.parameters.length) = some 3 := by decide +kernel
abbrev rm_cProcessor_shifted : Room := { frames := 1, cells := 0, slots := 0, locals := 23 }
def cProcessor_shifted_b63 (st : CS) (x1 : Int32) (x3 : Int32) (y0 : Int32) : CS × Int32 := (if ((32 : Int32) ≤ x3) then ((sI st 33 y0), (0 : Int32)) else ((sI st 33 y0), (x1 <<< (x3 &&& 31))))
set_option maxHeartbeats 4000000 in
set_option maxRecDepth 100000 in
theorem k_cProcessor_shifted_b63 {p : Program} {l : Launch} {e : Env} {s : State} {m : MethodId} {args : Array Value} {below : List Frame} {meth : Method} {c : Code} {A : Nat → Prop} (g : Gm) (C : cX p s m args meth c A cX5_shifted (some .int) 5 RX5 wq_X5_shifted (gD g) vwCl (cty g) (cz g)) (st : CS) (x1 : Int32) (x3 : Int32) (y0 : Int32) (H : Heap) (locs : List Loc) (ls : Array Slot) (hI : cI (gD g) vwCl (cw g) A s st H locs) (hl : lv_has ls 5 [(0, .ref (gad g 19)), (1, .int x1), (3, .int x3)]) (X : CS × Int32) (hF : X = cProcessor_shifted_b63 st x1 x3 y0) : W p l e rm_cProcessor_shifted s m args below meth c H locs 0 0 (MQ below (cQi (gD g) vwCl (cty g) (cw g) A X.1 X.2) args s 0 0 A) (F0 m 63 ls [.int y0, .ref (gad g 19)]) := by
  obtain ⟨hx, hb, hr, hml, hown, hts, hlocks, hK, hA, hZ, hzo⟩ := id C
  unfold cProcessor_shifted_b63 at hF
  refine va_put (D := gD g) (ci := 5) (C := RX5) (T := TX5) (N := 10) (v := .int y0) (ty := .int) hx hb hts (fun w h => List.mem_cons_of_mem _ (isX50 w h)) tyX5 tyX5_ok nmX5 hown hK hI.1 hI.2.1 hI.2.2 19 rfl rfl 7 (by decide) (hts _ (List.mem_cons_of_mem _ mw432)) (fun _ h9 => h9) rfl (by decide +kernel) rfl rfl (Nat.le_of_ble_eq_true rfl) dX5_shifted_63 (fun H locs hP hD hS => ?_)
  have hI : cI (gD g) vwCl (cw g) A s (sI st 33 y0) H locs := ⟨hP, hD, hS⟩
  refine lv_iload_n hx hb dX5_shifted_66 rfl (lv_at hl 2 rfl) ?_
  refine lv_bipush (v := (32 : Int32)) hx hb dX5_shifted_67 (by decide) ?_
  refine lv_icmp_ge (tgt := 78) hx hb dX5_shifted_69 (by decide) (fun c_69 => ?_) (fun c_69 => ?_)
  · have hF := hF.trans (if_pos c_69)
    refine lv_iconst (v := (0 : Int32)) hx hb dX5_shifted_78 (by decide) ?_
    exact cx_iret C hI (congrArg Prod.fst hF) (congrArg Prod.snd hF) dX5_shifted_79
  · have hF := hF.trans (if_neg c_69)
    refine lv_iload_n hx hb dX5_shifted_72 rfl (lv_at hl 1 rfl) ?_
    refine lv_iload_n hx hb dX5_shifted_73 rfl (lv_at hl 2 rfl) ?_
    refine lv_ishl hx hb dX5_shifted_74 ?_
    refine lv_goto (tgt := 79) hx hb dX5_shifted_75 (by decide) ?_
    exact cx_iret C hI (congrArg Prod.fst hF) (congrArg Prod.snd hF) dX5_shifted_79
def cProcessor_shifted_b98 (st : CS) (x1 : Int32) (x3 : Int32) (y0 : Int32) : CS × Int32 := (if ((32 : Int32) ≤ x3) then ((sI st 33 y0), (0 : Int32)) else ((sI st 33 y0), (ushr x1 x3)))
set_option maxHeartbeats 4000000 in
set_option maxRecDepth 100000 in
theorem k_cProcessor_shifted_b98 {p : Program} {l : Launch} {e : Env} {s : State} {m : MethodId} {args : Array Value} {below : List Frame} {meth : Method} {c : Code} {A : Nat → Prop} (g : Gm) (C : cX p s m args meth c A cX5_shifted (some .int) 5 RX5 wq_X5_shifted (gD g) vwCl (cty g) (cz g)) (st : CS) (x1 : Int32) (x3 : Int32) (y0 : Int32) (H : Heap) (locs : List Loc) (ls : Array Slot) (hI : cI (gD g) vwCl (cw g) A s st H locs) (hl : lv_has ls 5 [(0, .ref (gad g 19)), (1, .int x1), (3, .int x3)]) (X : CS × Int32) (hF : X = cProcessor_shifted_b98 st x1 x3 y0) : W p l e rm_cProcessor_shifted s m args below meth c H locs 0 0 (MQ below (cQi (gD g) vwCl (cty g) (cw g) A X.1 X.2) args s 0 0 A) (F0 m 98 ls [.int y0, .ref (gad g 19)]) := by
  obtain ⟨hx, hb, hr, hml, hown, hts, hlocks, hK, hA, hZ, hzo⟩ := id C
  unfold cProcessor_shifted_b98 at hF
  refine va_put (D := gD g) (ci := 5) (C := RX5) (T := TX5) (N := 10) (v := .int y0) (ty := .int) hx hb hts (fun w h => List.mem_cons_of_mem _ (isX50 w h)) tyX5 tyX5_ok nmX5 hown hK hI.1 hI.2.1 hI.2.2 19 rfl rfl 7 (by decide) (hts _ (List.mem_cons_of_mem _ mw432)) (fun _ h9 => h9) rfl (by decide +kernel) rfl rfl (Nat.le_of_ble_eq_true rfl) dX5_shifted_98 (fun H locs hP hD hS => ?_)
  have hI : cI (gD g) vwCl (cw g) A s (sI st 33 y0) H locs := ⟨hP, hD, hS⟩
  refine lv_iload_n hx hb dX5_shifted_101 rfl (lv_at hl 2 rfl) ?_
  refine lv_bipush (v := (32 : Int32)) hx hb dX5_shifted_102 (by decide) ?_
  refine lv_icmp_ge (tgt := 113) hx hb dX5_shifted_104 (by decide) (fun c_104 => ?_) (fun c_104 => ?_)
  · have hF := hF.trans (if_pos c_104)
    refine lv_iconst (v := (0 : Int32)) hx hb dX5_shifted_113 (by decide) ?_
    exact cx_iret C hI (congrArg Prod.fst hF) (congrArg Prod.snd hF) dX5_shifted_114
  · have hF := hF.trans (if_neg c_104)
    refine lv_iload_n hx hb dX5_shifted_107 rfl (lv_at hl 1 rfl) ?_
    refine lv_iload_n hx hb dX5_shifted_108 rfl (lv_at hl 2 rfl) ?_
    refine lv_iushr (v := (ushr x1 x3)) hx hb dX5_shifted_109 rfl ?_
    refine lv_goto (tgt := 114) hx hb dX5_shifted_110 (by decide) ?_
    exact cx_iret C hI (congrArg Prod.fst hF) (congrArg Prod.snd hF) dX5_shifted_114
def cProcessor_shifted (st : CS) (x1 : Int32) (x2 : Int32) (x3 : Int32) : CS × Int32 := (if (x3 = 0) then ((sI st 33 (cRegisters_carry st)), x1) else (if x2 = (0 : Int32) then (if ((32 : Int32) < x3) then (cProcessor_shifted_b63 st x1 x3 (0 : Int32)) else (cProcessor_shifted_b63 st x1 x3 ((ushr x1 ((32 : Int32) - x3)) &&& (1 : Int32)))) else (if x2 = (1 : Int32) then (if ((32 : Int32) < x3) then (cProcessor_shifted_b98 st x1 x3 (0 : Int32)) else (cProcessor_shifted_b98 st x1 x3 ((ushr x1 (x3 - (1 : Int32))) &&& (1 : Int32)))) else (if x2 = (2 : Int32) then ((sI st 33 ((x1 >>> ((if (31 : Int32) < (x3 - (1 : Int32)) then (31 : Int32) else (x3 - (1 : Int32))) &&& 31)) &&& (1 : Int32))), (x1 >>> ((if (31 : Int32) < x3 then (31 : Int32) else x3) &&& 31))) else ((sI st 33 (ushr (cProcessor_turned x1 (x3 &&& (31 : Int32))) (31 : Int32))), (cProcessor_turned x1 (x3 &&& (31 : Int32))))))))
set_option maxHeartbeats 4000000 in
set_option maxRecDepth 100000 in
theorem k_cProcessor_shifted {p : Program} {l : Launch} {e : Env} {s : State} {m : MethodId} {args : Array Value} {below : List Frame} {meth : Method} {c : Code} {A : Nat → Prop} (g : Gm) (C : cX p s m args meth c A cX5_shifted (some .int) 5 RX5 wq_X5_shifted (gD g) vwCl (cty g) (cz g)) (st : CS) (x1 : Int32) (x2 : Int32) (x3 : Int32) (H : Heap) (locs : List Loc) (ls : Array Slot) (hI : cI (gD g) vwCl (cw g) A s st H locs) (hl : lv_has ls 5 [(0, .ref (gad g 19)), (1, .int x1), (2, .int x2), (3, .int x3)]) (X : CS × Int32) (hF : X = cProcessor_shifted st x1 x2 x3) : W p l e rm_cProcessor_shifted s m args below meth c H locs 0 0 (MQ below (cQi (gD g) vwCl (cty g) (cw g) A X.1 X.2) args s 0 0 A) (F0 m 0 ls []) := by
  obtain ⟨hx, hb, hr, hml, hown, hts, hlocks, hK, hA, hZ, hzo⟩ := id C
  unfold cProcessor_shifted at hF
  refine lv_iload_n hx hb dX5_shifted_0 rfl (lv_at hl 3 rfl) ?_
  refine lv_if_ne (tgt := 17) hx hb dX5_shifted_1 (by decide) (fun c_1 => ?_) (fun c_1 => ?_)
  · have hF := hF.trans (if_neg c_1)
    refine lv_iload_n hx hb dX5_shifted_17 rfl (lv_at hl 2 rfl) ?_
    by_cases c_18_0 : x2 = (0 : Int32)
    · have hF := hF.trans (if_pos c_18_0)
      refine lv_tableIn (off := 26) (tgt := 44) hx hb dX5_shifted_18 (by rw [c_18_0]; decide) (by rw [c_18_0]; decide) (by rw [c_18_0]; rfl) (by decide) ?_
      refine lv_aload_n hx hb dX5_shifted_44 rfl (lv_at hl 0 rfl) ?_
      refine lv_iload_n hx hb dX5_shifted_45 rfl (lv_at hl 3 rfl) ?_
      refine lv_bipush (v := (32 : Int32)) hx hb dX5_shifted_46 (by decide) ?_
      refine lv_icmp_gt (tgt := 62) hx hb dX5_shifted_48 (by decide) (fun c_48 => ?_) (fun c_48 => ?_)
      · have hF := hF.trans (if_pos c_48)
        refine lv_iconst (v := (0 : Int32)) hx hb dX5_shifted_62 (by decide) ?_
        exact k_cProcessor_shifted_b63 g C st x1 x3 (0 : Int32) H locs ls hI (lv_sub hl [0, 1, 3] rfl) X hF
      · have hF := hF.trans (if_neg c_48)
        refine lv_iload_n hx hb dX5_shifted_51 rfl (lv_at hl 1 rfl) ?_
        refine lv_bipush (v := (32 : Int32)) hx hb dX5_shifted_52 (by decide) ?_
        refine lv_iload_n hx hb dX5_shifted_54 rfl (lv_at hl 3 rfl) ?_
        refine lv_isub hx hb dX5_shifted_55 ?_
        refine lv_iushr (v := (ushr x1 ((32 : Int32) - x3))) hx hb dX5_shifted_56 rfl ?_
        refine lv_iconst (v := (1 : Int32)) hx hb dX5_shifted_57 (by decide) ?_
        refine lv_iand hx hb dX5_shifted_58 ?_
        refine lv_goto (tgt := 63) hx hb dX5_shifted_59 (by decide) ?_
        exact k_cProcessor_shifted_b63 g C st x1 x3 ((ushr x1 ((32 : Int32) - x3)) &&& (1 : Int32)) H locs ls hI (lv_sub hl [0, 1, 3] rfl) X hF
    · have hF := hF.trans (if_neg c_18_0)
      by_cases c_18_1 : x2 = (1 : Int32)
      · have hF := hF.trans (if_pos c_18_1)
        refine lv_tableIn (off := 62) (tgt := 80) hx hb dX5_shifted_18 (by rw [c_18_1]; decide) (by rw [c_18_1]; decide) (by rw [c_18_1]; rfl) (by decide) ?_
        refine lv_aload_n hx hb dX5_shifted_80 rfl (lv_at hl 0 rfl) ?_
        refine lv_iload_n hx hb dX5_shifted_81 rfl (lv_at hl 3 rfl) ?_
        refine lv_bipush (v := (32 : Int32)) hx hb dX5_shifted_82 (by decide) ?_
        refine lv_icmp_gt (tgt := 97) hx hb dX5_shifted_84 (by decide) (fun c_84 => ?_) (fun c_84 => ?_)
        · have hF := hF.trans (if_pos c_84)
          refine lv_iconst (v := (0 : Int32)) hx hb dX5_shifted_97 (by decide) ?_
          exact k_cProcessor_shifted_b98 g C st x1 x3 (0 : Int32) H locs ls hI (lv_sub hl [0, 1, 3] rfl) X hF
        · have hF := hF.trans (if_neg c_84)
          refine lv_iload_n hx hb dX5_shifted_87 rfl (lv_at hl 1 rfl) ?_
          refine lv_iload_n hx hb dX5_shifted_88 rfl (lv_at hl 3 rfl) ?_
          refine lv_iconst (v := (1 : Int32)) hx hb dX5_shifted_89 (by decide) ?_
          refine lv_isub hx hb dX5_shifted_90 ?_
          refine lv_iushr (v := (ushr x1 (x3 - (1 : Int32)))) hx hb dX5_shifted_91 rfl ?_
          refine lv_iconst (v := (1 : Int32)) hx hb dX5_shifted_92 (by decide) ?_
          refine lv_iand hx hb dX5_shifted_93 ?_
          refine lv_goto (tgt := 98) hx hb dX5_shifted_94 (by decide) ?_
          exact k_cProcessor_shifted_b98 g C st x1 x3 ((ushr x1 (x3 - (1 : Int32))) &&& (1 : Int32)) H locs ls hI (lv_sub hl [0, 1, 3] rfl) X hF
      · have hF := hF.trans (if_neg c_18_1)
        by_cases c_18_2 : x2 = (2 : Int32)
        · have hF := hF.trans (if_pos c_18_2)
          refine lv_tableIn (off := 97) (tgt := 115) hx hb dX5_shifted_18 (by rw [c_18_2]; decide) (by rw [c_18_2]; decide) (by rw [c_18_2]; rfl) (by decide) ?_
          refine lv_aload_n hx hb dX5_shifted_115 rfl (lv_at hl 0 rfl) ?_
          refine lv_iload_n hx hb dX5_shifted_116 rfl (lv_at hl 1 rfl) ?_
          refine lv_iload_n hx hb dX5_shifted_117 rfl (lv_at hl 3 rfl) ?_
          refine lv_iconst (v := (1 : Int32)) hx hb dX5_shifted_118 (by decide) ?_
          refine lv_isub hx hb dX5_shifted_119 ?_
          refine lv_bipush (v := (31 : Int32)) hx hb dX5_shifted_120 (by decide) ?_
          refine va_mmin hx hb (hml.trans hl.1.symm) hown (hts _ (List.mem_cons_of_mem _ mw456)) (hts _ (List.mem_cons_of_mem _ mw457)) (hts _ (List.mem_cons_of_mem _ mw458)) (hts _ (List.mem_cons_of_mem _ mw459)) (Nat.le_of_ble_eq_true rfl) (Nat.le_of_ble_eq_true rfl) (Nat.zero_le _) (Nat.zero_le _) dX5_shifted_122 ?_
          refine lv_ishr hx hb dX5_shifted_125 ?_
          refine lv_iconst (v := (1 : Int32)) hx hb dX5_shifted_126 (by decide) ?_
          refine lv_iand hx hb dX5_shifted_127 ?_
          refine va_put (D := gD g) (ci := 5) (C := RX5) (T := TX5) (N := 10) (v := .int ((x1 >>> ((if (31 : Int32) < (x3 - (1 : Int32)) then (31 : Int32) else (x3 - (1 : Int32))) &&& 31)) &&& (1 : Int32))) (ty := .int) hx hb hts (fun w h => List.mem_cons_of_mem _ (isX50 w h)) tyX5 tyX5_ok nmX5 hown hK hI.1 hI.2.1 hI.2.2 19 rfl rfl 7 (by decide) (hts _ (List.mem_cons_of_mem _ mw432)) (fun _ h9 => h9) rfl (by decide +kernel) rfl rfl (Nat.le_of_ble_eq_true rfl) dX5_shifted_128 (fun H locs hP hD hS => ?_)
          have hI : cI (gD g) vwCl (cw g) A s (sI st 33 ((x1 >>> ((if (31 : Int32) < (x3 - (1 : Int32)) then (31 : Int32) else (x3 - (1 : Int32))) &&& 31)) &&& (1 : Int32))) H locs := ⟨hP, hD, hS⟩
          refine lv_iload_n hx hb dX5_shifted_131 rfl (lv_at hl 1 rfl) ?_
          refine lv_iload_n hx hb dX5_shifted_132 rfl (lv_at hl 3 rfl) ?_
          refine lv_bipush (v := (31 : Int32)) hx hb dX5_shifted_133 (by decide) ?_
          refine va_mmin hx hb (hml.trans hl.1.symm) hown (hts _ (List.mem_cons_of_mem _ mw456)) (hts _ (List.mem_cons_of_mem _ mw457)) (hts _ (List.mem_cons_of_mem _ mw458)) (hts _ (List.mem_cons_of_mem _ mw459)) (Nat.le_of_ble_eq_true rfl) (Nat.le_of_ble_eq_true rfl) (Nat.zero_le _) (Nat.zero_le _) dX5_shifted_135 ?_
          refine lv_ishr hx hb dX5_shifted_138 ?_
          exact cx_iret C hI (congrArg Prod.fst hF) (congrArg Prod.snd hF) dX5_shifted_139
        · have hF := hF.trans (if_neg c_18_2)
          refine lv_tableOut (tgt := 140) hx hb dX5_shifted_18 (by have h0 := lv_neT (a := 0) c_18_0 (by decide); have h1 := lv_neT (a := 1) c_18_1 (by decide); have h2 := lv_neT (a := 2) c_18_2 (by decide); omega) (by decide) ?_
          refine lv_iload_n hx hb dX5_shifted_140 rfl (lv_at hl 1 rfl) ?_
          refine lv_iload_n hx hb dX5_shifted_141 rfl (lv_at hl 3 rfl) ?_
          refine lv_bipush (v := (31 : Int32)) hx hb dX5_shifted_142 (by decide) ?_
          refine lv_iand hx hb dX5_shifted_144 ?_
          refine cx_Si (As := [.int x1, .int (x3 &&& (31 : Int32))]) (rest := []) C (c_cProcessor_turned l g st x1 (x3 &&& (31 : Int32))) (va_cwS 2 hts (gd_S _ mw433 mw434 mw46 mw435) rfl rfl rfl yd_yX5_turned ⟨Nat.le_of_ble_eq_true rfl, Nat.le_of_ble_eq_true rfl⟩) hI rfl hl.1 rfl (Nat.le_of_ble_eq_true rfl) dX5_shifted_145 (fun H locs hI => ?_)
          refine lv_istore (lv' := [(4, .int (cProcessor_turned x1 (x3 &&& (31 : Int32)))), (0, .ref (gad g 19)), (1, .int x1), (2, .int x2), (3, .int x3)]) hx hb dX5_shifted_148 hl (by decide) rfl (fun ls hl => ?_)
          refine lv_aload_n hx hb dX5_shifted_150 rfl (lv_at hl 1 rfl) ?_
          refine lv_iload hx hb dX5_shifted_151 (lv_at hl 0 rfl) ?_
          refine lv_bipush (v := (31 : Int32)) hx hb dX5_shifted_153 (by decide) ?_
          refine lv_iushr (v := (ushr (cProcessor_turned x1 (x3 &&& (31 : Int32))) (31 : Int32))) hx hb dX5_shifted_155 rfl ?_
          refine va_put (D := gD g) (ci := 5) (C := RX5) (T := TX5) (N := 10) (v := .int (ushr (cProcessor_turned x1 (x3 &&& (31 : Int32))) (31 : Int32))) (ty := .int) hx hb hts (fun w h => List.mem_cons_of_mem _ (isX50 w h)) tyX5 tyX5_ok nmX5 hown hK hI.1 hI.2.1 hI.2.2 19 rfl rfl 7 (by decide) (hts _ (List.mem_cons_of_mem _ mw432)) (fun _ h9 => h9) rfl (by decide +kernel) rfl rfl (Nat.le_of_ble_eq_true rfl) dX5_shifted_156 (fun H locs hP hD hS => ?_)
          have hI : cI (gD g) vwCl (cw g) A s (sI st 33 (ushr (cProcessor_turned x1 (x3 &&& (31 : Int32))) (31 : Int32))) H locs := ⟨hP, hD, hS⟩
          refine lv_iload hx hb dX5_shifted_159 (lv_at hl 0 rfl) ?_
          exact cx_iret C hI (congrArg Prod.fst hF) (congrArg Prod.snd hF) dX5_shifted_161
  · have hF := hF.trans (if_pos c_1)
    refine lv_aload_n hx hb dX5_shifted_4 rfl (lv_at hl 0 rfl) ?_
    refine lv_aload_n hx hb dX5_shifted_5 rfl (lv_at hl 0 rfl) ?_
    refine va_get (D := gD g) (ci := 5) (C := RX5) (T := TX5) (N := 10) (v := .ref (gad g 2)) hx hb hts (fun w h => List.mem_cons_of_mem _ (isX50 w h)) hown hK hI.1 19 rfl rfl 0 (by decide) (hts _ (List.mem_cons_of_mem _ mw112)) (fun _ h9 => h9) rfl dX5_shifted_6 ?_
    refine cx_Vi (As := []) (rest := [.ref (gad g 19)]) C (c_cRegisters_carry l g st ) (cwV 0 hts (gd_V _ mw436 mw437 mw438 mw14 mw439) rfl rfl rfl yd_yX6_carry ⟨Nat.le_of_ble_eq_true rfl, Nat.le_of_ble_eq_true rfl⟩) (va_recv hK hI.1 (ci := 6) (q0 := 2) rfl rfl) hI rfl hl.1 rfl (Nat.le_of_ble_eq_true rfl) dX5_shifted_9 (fun H locs hI => ?_)
    refine va_put (D := gD g) (ci := 5) (C := RX5) (T := TX5) (N := 10) (v := .int (cRegisters_carry st)) (ty := .int) hx hb hts (fun w h => List.mem_cons_of_mem _ (isX50 w h)) tyX5 tyX5_ok nmX5 hown hK hI.1 hI.2.1 hI.2.2 19 rfl rfl 7 (by decide) (hts _ (List.mem_cons_of_mem _ mw432)) (fun _ h9 => h9) rfl (by decide +kernel) rfl rfl (Nat.le_of_ble_eq_true rfl) dX5_shifted_12 (fun H locs hP hD hS => ?_)
    have hI : cI (gD g) vwCl (cw g) A s (sI st 33 (cRegisters_carry st)) H locs := ⟨hP, hD, hS⟩
    refine lv_iload_n hx hb dX5_shifted_15 rfl (lv_at hl 1 rfl) ?_
    exact cx_iret C hI (congrArg Prod.fst hF) (congrArg Prod.snd hF) dX5_shifted_16
set_option maxHeartbeats 4000000 in
set_option maxRecDepth 100000 in
theorem c_cProcessor_shifted (l : Launch) (g : Gm) (st : CS) (x1 : Int32) (x2 : Int32) (x3 : Int32) : Mi l yX5_shifted wq_X5_shifted rm_cProcessor_shifted (gD g) vwCl (cty g) (cw g) (cz g) [.ref (gad g 19), .int x1, .int x2, .int x3] st (cProcessor_shifted st x1 x2 x3).1 (cProcessor_shifted st x1 x2 x3).2 := by
  intro sz
  refine Met.ofW (cc := cX5_shifted) (maxL := 5) (ret := (some .int)) (by decide) rfl ?_
  intro p e s m args below meth c s₁ B hml hv
  obtain ⟨rfl, hsz, hP, hK, hD0, hZ⟩ := hv
  subst hsz
  have hl := lv_entry ([.ref (gad g 19), .int x1, .int x2, .int x3]) (n := 5) (Nat.le_of_ble_eq_true rfl)
  rw [lg_entry_eq]
  generalize (lg_sl ([.ref (gad g 19), .int x1, .int x2, .int x3]) ++ List.replicate (5 - (lg_sl ([.ref (gad g 19), .int x1, .int x2, .int x3])).length) Slot.unset).toArray = ls at hl ⊢
  exact k_cProcessor_shifted g ⟨B.exec, B.bytes, B.returns, hml, findClass_of_methodNamed B.named, atoms_spec (ws := wq_X5_shifted) B.pre, B.notSynchronized, hK, fun q h => Or.inr h, hZ, cz_ok g⟩ st x1 x2 x3 _ _ ls ⟨hP, hD0.self, va_S.rf⟩ hl _ rfl
abbrev wq_X5_shiftedByBits : List Cond := .code yX5_shiftedByBits cX5_shiftedByBits 4 (some .int) :: wAll
theorem yd_yX5_shiftedByBits : yX5_shiftedByBits.cls = RX5 ∧ yX5_shiftedByBits.cls ≠ "java/lang/invoke/MethodHandle" ∧ yX5_shiftedByBits.cls ≠ "java/lang/invoke/VarHandle" ∧ (parseMethodDescriptor yX5_shiftedByBits.desc).map (fun d => d.parameters.length) = some 1 := by decide +kernel
abbrev rm_cProcessor_shiftedByBits : Room := { frames := 2, cells := 0, slots := 0, locals := 47 }
def cProcessor_shiftedByBits_b28 (st : CS) (x1 : Int32) (x2 : Int32) (x3 : Int32) : CS × Int32 := ((cProcessor_shifted st x1 x2 x3).1, (cProcessor_shifted st x1 x2 x3).2)
set_option maxHeartbeats 4000000 in
set_option maxRecDepth 100000 in
theorem k_cProcessor_shiftedByBits_b28 {p : Program} {l : Launch} {e : Env} {s : State} {m : MethodId} {args : Array Value} {below : List Frame} {meth : Method} {c : Code} {A : Nat → Prop} (g : Gm) (C : cX p s m args meth c A cX5_shiftedByBits (some .int) 4 RX5 wq_X5_shiftedByBits (gD g) vwCl (cty g) (cz g)) (st : CS) (x1 : Int32) (x2 : Int32) (x3 : Int32) (H : Heap) (locs : List Loc) (ls : Array Slot) (hI : cI (gD g) vwCl (cw g) A s st H locs) (hl : lv_has ls 4 [(0, .ref (gad g 19)), (1, .int x1), (2, .int x2), (3, .int x3)]) (X : CS × Int32) (hF : X = cProcessor_shiftedByBits_b28 st x1 x2 x3) : W p l e rm_cProcessor_shiftedByBits s m args below meth c H locs 0 0 (MQ below (cQi (gD g) vwCl (cty g) (cw g) A X.1 X.2) args s 0 0 A) (F0 m 28 ls []) := by
  obtain ⟨hx, hb, hr, hml, hown, hts, hlocks, hK, hA, hZ, hzo⟩ := id C
  unfold cProcessor_shiftedByBits_b28 at hF
  refine lv_aload_n hx hb dX5_shiftedByBits_28 rfl (lv_at hl 0 rfl) ?_
  refine lv_iload_n hx hb dX5_shiftedByBits_29 rfl (lv_at hl 1 rfl) ?_
  refine lv_iload_n hx hb dX5_shiftedByBits_30 rfl (lv_at hl 2 rfl) ?_
  refine lv_iload_n hx hb dX5_shiftedByBits_31 rfl (lv_at hl 3 rfl) ?_
  refine cx_Vi (As := [.int x1, .int x2, .int x3]) (rest := []) C (c_cProcessor_shifted l g st x1 x2 x3) (cwV 3 hts (gd_V _ mw452 mw453 mw454 mw46 mw455) rfl rfl rfl yd_yX5_shifted ⟨Nat.le_of_ble_eq_true rfl, Nat.le_of_ble_eq_true rfl⟩) (va_recv hK hI.1 (ci := 5) (q0 := 19) rfl rfl) hI rfl hl.1 rfl (Nat.le_of_ble_eq_true rfl) dX5_shiftedByBits_32 (fun H locs hI => ?_)
  exact cx_iret C hI (congrArg Prod.fst hF) (congrArg Prod.snd hF) dX5_shiftedByBits_35
def cProcessor_shiftedByBits (st : CS) (x1 : Int32) : CS × Int32 := (if (((ushr (gI st 32) (7 : Int32)) &&& (31 : Int32)) = 0) then (if (((ushr (gI st 32) (5 : Int32)) &&& (3 : Int32)) = 0) then (cProcessor_shiftedByBits_b28 st x1 ((ushr (gI st 32) (5 : Int32)) &&& (3 : Int32)) ((ushr (gI st 32) (7 : Int32)) &&& (31 : Int32))) else (if (((ushr (gI st 32) (5 : Int32)) &&& (3 : Int32)) = (3 : Int32)) then ((sI st 33 (x1 &&& (1 : Int32))), ((ushr x1 (1 : Int32)) ||| ((cRegisters_carry (sI st 33 (x1 &&& (1 : Int32)))) <<< ((31 : Int32) &&& 31)))) else ((cProcessor_shifted st x1 ((ushr (gI st 32) (5 : Int32)) &&& (3 : Int32)) (32 : Int32)).1, (cProcessor_shifted st x1 ((ushr (gI st 32) (5 : Int32)) &&& (3 : Int32)) (32 : Int32)).2))) else (cProcessor_shiftedByBits_b28 st x1 ((ushr (gI st 32) (5 : Int32)) &&& (3 : Int32)) ((ushr (gI st 32) (7 : Int32)) &&& (31 : Int32))))
set_option maxHeartbeats 4000000 in
set_option maxRecDepth 100000 in
theorem k_cProcessor_shiftedByBits {p : Program} {l : Launch} {e : Env} {s : State} {m : MethodId} {args : Array Value} {below : List Frame} {meth : Method} {c : Code} {A : Nat → Prop} (g : Gm) (C : cX p s m args meth c A cX5_shiftedByBits (some .int) 4 RX5 wq_X5_shiftedByBits (gD g) vwCl (cty g) (cz g)) (st : CS) (x1 : Int32) (H : Heap) (locs : List Loc) (ls : Array Slot) (hI : cI (gD g) vwCl (cw g) A s st H locs) (hl : lv_has ls 4 [(0, .ref (gad g 19)), (1, .int x1)]) (X : CS × Int32) (hF : X = cProcessor_shiftedByBits st x1) : W p l e rm_cProcessor_shiftedByBits s m args below meth c H locs 0 0 (MQ below (cQi (gD g) vwCl (cty g) (cw g) A X.1 X.2) args s 0 0 A) (F0 m 0 ls []) := by
  obtain ⟨hx, hb, hr, hml, hown, hts, hlocks, hK, hA, hZ, hzo⟩ := id C
  unfold cProcessor_shiftedByBits at hF
  refine lv_aload_n hx hb dX5_shiftedByBits_0 rfl (lv_at hl 0 rfl) ?_
  refine va_get (D := gD g) (ci := 5) (C := RX5) (T := TX5) (N := 10) (v := .int (gI st 32)) hx hb hts (fun w h => List.mem_cons_of_mem _ (isX50 w h)) hown hK hI.1 19 rfl rfl 6 (by decide) (hts _ (List.mem_cons_of_mem _ mw311)) (fun _ h9 => h9) rfl dX5_shiftedByBits_1 ?_
  refine lv_iconst (v := (5 : Int32)) hx hb dX5_shiftedByBits_4 (by decide) ?_
  refine lv_iushr (v := (ushr (gI st 32) (5 : Int32))) hx hb dX5_shiftedByBits_5 rfl ?_
  refine lv_iconst (v := (3 : Int32)) hx hb dX5_shiftedByBits_6 (by decide) ?_
  refine lv_iand hx hb dX5_shiftedByBits_7 ?_
  refine lv_istore_n (lv' := [(2, .int ((ushr (gI st 32) (5 : Int32)) &&& (3 : Int32))), (0, .ref (gad g 19)), (1, .int x1)]) hx hb dX5_shiftedByBits_8 rfl hl (by decide) rfl (fun ls hl => ?_)
  refine lv_aload_n hx hb dX5_shiftedByBits_9 rfl (lv_at hl 1 rfl) ?_
  refine va_get (D := gD g) (ci := 5) (C := RX5) (T := TX5) (N := 10) (v := .int (gI st 32)) hx hb hts (fun w h => List.mem_cons_of_mem _ (isX50 w h)) hown hK hI.1 19 rfl rfl 6 (by decide) (hts _ (List.mem_cons_of_mem _ mw311)) (fun _ h9 => h9) rfl dX5_shiftedByBits_10 ?_
  refine lv_bipush (v := (7 : Int32)) hx hb dX5_shiftedByBits_13 (by decide) ?_
  refine lv_iushr (v := (ushr (gI st 32) (7 : Int32))) hx hb dX5_shiftedByBits_15 rfl ?_
  refine lv_bipush (v := (31 : Int32)) hx hb dX5_shiftedByBits_16 (by decide) ?_
  refine lv_iand hx hb dX5_shiftedByBits_18 ?_
  refine lv_istore_n (lv' := [(3, .int ((ushr (gI st 32) (7 : Int32)) &&& (31 : Int32))), (2, .int ((ushr (gI st 32) (5 : Int32)) &&& (3 : Int32))), (0, .ref (gad g 19)), (1, .int x1)]) hx hb dX5_shiftedByBits_19 rfl hl (by decide) rfl (fun ls hl => ?_)
  refine lv_iload_n hx hb dX5_shiftedByBits_20 rfl (lv_at hl 0 rfl) ?_
  refine lv_if_ne (tgt := 28) hx hb dX5_shiftedByBits_21 (by decide) (fun c_21 => ?_) (fun c_21 => ?_)
  · have hF := hF.trans (if_neg c_21)
    exact k_cProcessor_shiftedByBits_b28 g C st x1 ((ushr (gI st 32) (5 : Int32)) &&& (3 : Int32)) ((ushr (gI st 32) (7 : Int32)) &&& (31 : Int32)) H locs ls hI (lv_sub hl [2, 3, 1, 0] rfl) X hF
  · have hF := hF.trans (if_pos c_21)
    refine lv_iload_n hx hb dX5_shiftedByBits_24 rfl (lv_at hl 1 rfl) ?_
    refine lv_if_ne (tgt := 36) hx hb dX5_shiftedByBits_25 (by decide) (fun c_25 => ?_) (fun c_25 => ?_)
    · have hF := hF.trans (if_neg c_25)
      refine lv_iload_n hx hb dX5_shiftedByBits_36 rfl (lv_at hl 1 rfl) ?_
      refine lv_iconst (v := (3 : Int32)) hx hb dX5_shiftedByBits_37 (by decide) ?_
      refine lv_icmp_ne (tgt := 63) hx hb dX5_shiftedByBits_38 (by decide) (fun c_38 => ?_) (fun c_38 => ?_)
      · have hF := hF.trans (if_neg c_38)
        refine lv_aload_n hx hb dX5_shiftedByBits_63 rfl (lv_at hl 2 rfl) ?_
        refine lv_iload_n hx hb dX5_shiftedByBits_64 rfl (lv_at hl 3 rfl) ?_
        refine lv_iload_n hx hb dX5_shiftedByBits_65 rfl (lv_at hl 1 rfl) ?_
        refine lv_bipush (v := (32 : Int32)) hx hb dX5_shiftedByBits_66 (by decide) ?_
        refine cx_Vi (As := [.int x1, .int ((ushr (gI st 32) (5 : Int32)) &&& (3 : Int32)), .int (32 : Int32)]) (rest := []) C (c_cProcessor_shifted l g st x1 ((ushr (gI st 32) (5 : Int32)) &&& (3 : Int32)) (32 : Int32)) (cwV 3 hts (gd_V _ mw452 mw453 mw454 mw46 mw455) rfl rfl rfl yd_yX5_shifted ⟨Nat.le_of_ble_eq_true rfl, Nat.le_of_ble_eq_true rfl⟩) (va_recv hK hI.1 (ci := 5) (q0 := 19) rfl rfl) hI rfl hl.1 rfl (Nat.le_of_ble_eq_true rfl) dX5_shiftedByBits_68 (fun H locs hI => ?_)
        exact cx_iret C hI (congrArg Prod.fst hF) (congrArg Prod.snd hF) dX5_shiftedByBits_71
      · have hF := hF.trans (if_pos c_38)
        refine lv_aload_n hx hb dX5_shiftedByBits_41 rfl (lv_at hl 2 rfl) ?_
        refine lv_iload_n hx hb dX5_shiftedByBits_42 rfl (lv_at hl 3 rfl) ?_
        refine lv_iconst (v := (1 : Int32)) hx hb dX5_shiftedByBits_43 (by decide) ?_
        refine lv_iand hx hb dX5_shiftedByBits_44 ?_
        refine va_put (D := gD g) (ci := 5) (C := RX5) (T := TX5) (N := 10) (v := .int (x1 &&& (1 : Int32))) (ty := .int) hx hb hts (fun w h => List.mem_cons_of_mem _ (isX50 w h)) tyX5 tyX5_ok nmX5 hown hK hI.1 hI.2.1 hI.2.2 19 rfl rfl 7 (by decide) (hts _ (List.mem_cons_of_mem _ mw432)) (fun _ h9 => h9) rfl (by decide +kernel) rfl rfl (Nat.le_of_ble_eq_true rfl) dX5_shiftedByBits_45 (fun H locs hP hD hS => ?_)
        have hI : cI (gD g) vwCl (cw g) A s (sI st 33 (x1 &&& (1 : Int32))) H locs := ⟨hP, hD, hS⟩
        refine lv_iload_n hx hb dX5_shiftedByBits_48 rfl (lv_at hl 3 rfl) ?_
        refine lv_iconst (v := (1 : Int32)) hx hb dX5_shiftedByBits_49 (by decide) ?_
        refine lv_iushr (v := (ushr x1 (1 : Int32))) hx hb dX5_shiftedByBits_50 rfl ?_
        refine lv_aload_n hx hb dX5_shiftedByBits_51 rfl (lv_at hl 2 rfl) ?_
        refine va_get (D := gD g) (ci := 5) (C := RX5) (T := TX5) (N := 10) (v := .ref (gad g 2)) hx hb hts (fun w h => List.mem_cons_of_mem _ (isX50 w h)) hown hK hI.1 19 rfl rfl 0 (by decide) (hts _ (List.mem_cons_of_mem _ mw112)) (fun _ h9 => h9) rfl dX5_shiftedByBits_52 ?_
        refine cx_Vi (As := []) (rest := [.int (ushr x1 (1 : Int32))]) C (c_cRegisters_carry l g (sI st 33 (x1 &&& (1 : Int32))) ) (cwV 0 hts (gd_V _ mw436 mw437 mw438 mw14 mw439) rfl rfl rfl yd_yX6_carry ⟨Nat.le_of_ble_eq_true rfl, Nat.le_of_ble_eq_true rfl⟩) (va_recv hK hI.1 (ci := 6) (q0 := 2) rfl rfl) hI rfl hl.1 rfl (Nat.le_of_ble_eq_true rfl) dX5_shiftedByBits_55 (fun H locs hI => ?_)
        refine lv_bipush (v := (31 : Int32)) hx hb dX5_shiftedByBits_58 (by decide) ?_
        refine lv_ishl hx hb dX5_shiftedByBits_60 ?_
        refine lv_ior hx hb dX5_shiftedByBits_61 ?_
        exact cx_iret C hI (congrArg Prod.fst hF) (congrArg Prod.snd hF) dX5_shiftedByBits_62
    · have hF := hF.trans (if_pos c_25)
      exact k_cProcessor_shiftedByBits_b28 g C st x1 ((ushr (gI st 32) (5 : Int32)) &&& (3 : Int32)) ((ushr (gI st 32) (7 : Int32)) &&& (31 : Int32)) H locs ls hI (lv_sub hl [2, 3, 1, 0] rfl) X hF
set_option maxHeartbeats 4000000 in
set_option maxRecDepth 100000 in
theorem c_cProcessor_shiftedByBits (l : Launch) (g : Gm) (st : CS) (x1 : Int32) : Mi l yX5_shiftedByBits wq_X5_shiftedByBits rm_cProcessor_shiftedByBits (gD g) vwCl (cty g) (cw g) (cz g) [.ref (gad g 19), .int x1] st (cProcessor_shiftedByBits st x1).1 (cProcessor_shiftedByBits st x1).2 := by
  intro sz
  refine Met.ofW (cc := cX5_shiftedByBits) (maxL := 4) (ret := (some .int)) (by decide) rfl ?_
  intro p e s m args below meth c s₁ B hml hv
  obtain ⟨rfl, hsz, hP, hK, hD0, hZ⟩ := hv
  subst hsz
  have hl := lv_entry ([.ref (gad g 19), .int x1]) (n := 4) (Nat.le_of_ble_eq_true rfl)
  rw [lg_entry_eq]
  generalize (lg_sl ([.ref (gad g 19), .int x1]) ++ List.replicate (4 - (lg_sl ([.ref (gad g 19), .int x1])).length) Slot.unset).toArray = ls at hl ⊢
  exact k_cProcessor_shiftedByBits g ⟨B.exec, B.bytes, B.returns, hml, findClass_of_methodNamed B.named, atoms_spec (ws := wq_X5_shiftedByBits) B.pre, B.notSynchronized, hK, fun q h => Or.inr h, hZ, cz_ok g⟩ st x1 _ _ ls ⟨hP, hD0.self, va_S.rf⟩ hl _ rfl
abbrev wq_X5_shiftedRegister : List Cond := .code yX5_shiftedRegister cX5_shiftedRegister 5 (some .int) :: wAll
theorem yd_yX5_shiftedRegister : yX5_shiftedRegister.cls = RX5 ∧ yX5_shiftedRegister.cls ≠ "java/lang/invoke/MethodHandle" ∧ yX5_shiftedRegister.cls ≠ "java/lang/invoke/VarHandle" ∧ (parseMethodDescriptor yX5_shiftedRegister.desc).map (fun d => d.parameters.length) = some 2 := by decide +kernel
abbrev rm_cProcessor_shiftedRegister : Room := { frames := 3, cells := 0, slots := 0, locals := 70 }
def cProcessor_shiftedRegister_b26 (st : CS) (x1 : Int32) (y0 : Int32) : CS × Int32 := (if (x1 = 0) then ((cProcessor_shiftedByBits st y0).1, (cProcessor_shiftedByBits st y0).2) else ((cProcessor_shifted st y0 ((ushr (gI st 32) (5 : Int32)) &&& (3 : Int32)) ((cProcessor_operand st (cProcessor_part st (8 : Int32)) (8 : Int32)) &&& (255 : Int32))).1, (cProcessor_shifted st y0 ((ushr (gI st 32) (5 : Int32)) &&& (3 : Int32)) ((cProcessor_operand st (cProcessor_part st (8 : Int32)) (8 : Int32)) &&& (255 : Int32))).2))
set_option maxHeartbeats 4000000 in
set_option maxRecDepth 100000 in
theorem k_cProcessor_shiftedRegister_b26 {p : Program} {l : Launch} {e : Env} {s : State} {m : MethodId} {args : Array Value} {below : List Frame} {meth : Method} {c : Code} {A : Nat → Prop} (g : Gm) (C : cX p s m args meth c A cX5_shiftedRegister (some .int) 5 RX5 wq_X5_shiftedRegister (gD g) vwCl (cty g) (cz g)) (st : CS) (x1 : Int32) (y0 : Int32) (H : Heap) (locs : List Loc) (ls : Array Slot) (hI : cI (gD g) vwCl (cw g) A s st H locs) (hl : lv_has ls 5 [(0, .ref (gad g 19)), (1, .int x1)]) (X : CS × Int32) (hF : X = cProcessor_shiftedRegister_b26 st x1 y0) : W p l e rm_cProcessor_shiftedRegister s m args below meth c H locs 0 0 (MQ below (cQi (gD g) vwCl (cty g) (cw g) A X.1 X.2) args s 0 0 A) (F0 m 26 ls [.int y0]) := by
  obtain ⟨hx, hb, hr, hml, hown, hts, hlocks, hK, hA, hZ, hzo⟩ := id C
  unfold cProcessor_shiftedRegister_b26 at hF
  refine lv_istore (lv' := [(4, .int y0), (0, .ref (gad g 19)), (1, .int x1)]) hx hb dX5_shiftedRegister_26 hl (by decide) rfl (fun ls hl => ?_)
  refine lv_iload_n hx hb dX5_shiftedRegister_28 rfl (lv_at hl 2 rfl) ?_
  refine lv_if_eq (tgt := 63) hx hb dX5_shiftedRegister_29 (by decide) (fun c_29 => ?_) (fun c_29 => ?_)
  · have hF := hF.trans (if_pos c_29)
    refine lv_aload_n hx hb dX5_shiftedRegister_63 rfl (lv_at hl 1 rfl) ?_
    refine lv_iload hx hb dX5_shiftedRegister_64 (lv_at hl 0 rfl) ?_
    refine cx_Vi (As := [.int y0]) (rest := []) C (c_cProcessor_shiftedByBits l g st y0) (cwV 1 hts (gd_V _ mw460 mw461 mw462 mw46 mw463) rfl rfl rfl yd_yX5_shiftedByBits ⟨Nat.le_of_ble_eq_true rfl, Nat.le_of_ble_eq_true rfl⟩) (va_recv hK hI.1 (ci := 5) (q0 := 19) rfl rfl) hI rfl hl.1 rfl (Nat.le_of_ble_eq_true rfl) dX5_shiftedRegister_66 (fun H locs hI => ?_)
    exact cx_iret C hI (congrArg Prod.fst hF) (congrArg Prod.snd hF) dX5_shiftedRegister_69
  · have hF := hF.trans (if_neg c_29)
    refine lv_aload_n hx hb dX5_shiftedRegister_32 rfl (lv_at hl 1 rfl) ?_
    refine lv_iload hx hb dX5_shiftedRegister_33 (lv_at hl 0 rfl) ?_
    refine lv_aload_n hx hb dX5_shiftedRegister_35 rfl (lv_at hl 1 rfl) ?_
    refine va_get (D := gD g) (ci := 5) (C := RX5) (T := TX5) (N := 10) (v := .int (gI st 32)) hx hb hts (fun w h => List.mem_cons_of_mem _ (isX50 w h)) hown hK hI.1 19 rfl rfl 6 (by decide) (hts _ (List.mem_cons_of_mem _ mw311)) (fun _ h9 => h9) rfl dX5_shiftedRegister_36 ?_
    refine lv_iconst (v := (5 : Int32)) hx hb dX5_shiftedRegister_39 (by decide) ?_
    refine lv_iushr (v := (ushr (gI st 32) (5 : Int32))) hx hb dX5_shiftedRegister_40 rfl ?_
    refine lv_iconst (v := (3 : Int32)) hx hb dX5_shiftedRegister_41 (by decide) ?_
    refine lv_iand hx hb dX5_shiftedRegister_42 ?_
    refine lv_aload_n hx hb dX5_shiftedRegister_43 rfl (lv_at hl 1 rfl) ?_
    refine lv_aload_n hx hb dX5_shiftedRegister_44 rfl (lv_at hl 1 rfl) ?_
    refine lv_bipush (v := (8 : Int32)) hx hb dX5_shiftedRegister_45 (by decide) ?_
    refine cx_Vi (As := [.int (8 : Int32)]) (rest := [.ref (gad g 19), .int ((ushr (gI st 32) (5 : Int32)) &&& (3 : Int32)), .int y0, .ref (gad g 19)]) C (c_cProcessor_part l g st (8 : Int32)) (cwV 1 hts (gd_V _ mw393 mw394 mw395 mw46 mw396) rfl rfl rfl yd_yX5_part ⟨Nat.le_of_ble_eq_true rfl, Nat.le_of_ble_eq_true rfl⟩) (va_recv hK hI.1 (ci := 5) (q0 := 19) rfl rfl) hI rfl hl.1 rfl (Nat.le_of_ble_eq_true rfl) dX5_shiftedRegister_47 (fun H locs hI => ?_)
    refine lv_bipush (v := (8 : Int32)) hx hb dX5_shiftedRegister_50 (by decide) ?_
    refine cx_Vi (As := [.int (cProcessor_part st (8 : Int32)), .int (8 : Int32)]) (rest := [.int ((ushr (gI st 32) (5 : Int32)) &&& (3 : Int32)), .int y0, .ref (gad g 19)]) C (c_cProcessor_operand l g st (cProcessor_part st (8 : Int32)) (8 : Int32)) (cwV 2 hts (gd_V _ mw444 mw445 mw446 mw46 mw447) rfl rfl rfl yd_yX5_operand ⟨Nat.le_of_ble_eq_true rfl, Nat.le_of_ble_eq_true rfl⟩) (va_recv hK hI.1 (ci := 5) (q0 := 19) rfl rfl) hI rfl hl.1 rfl (Nat.le_of_ble_eq_true rfl) dX5_shiftedRegister_52 (fun H locs hI => ?_)
    refine lv_sipush (v := (255 : Int32)) hx hb dX5_shiftedRegister_55 (by decide) ?_
    refine lv_iand hx hb dX5_shiftedRegister_58 ?_
    refine cx_Vi (As := [.int y0, .int ((ushr (gI st 32) (5 : Int32)) &&& (3 : Int32)), .int ((cProcessor_operand st (cProcessor_part st (8 : Int32)) (8 : Int32)) &&& (255 : Int32))]) (rest := []) C (c_cProcessor_shifted l g st y0 ((ushr (gI st 32) (5 : Int32)) &&& (3 : Int32)) ((cProcessor_operand st (cProcessor_part st (8 : Int32)) (8 : Int32)) &&& (255 : Int32))) (cwV 3 hts (gd_V _ mw452 mw453 mw454 mw46 mw455) rfl rfl rfl yd_yX5_shifted ⟨Nat.le_of_ble_eq_true rfl, Nat.le_of_ble_eq_true rfl⟩) (va_recv hK hI.1 (ci := 5) (q0 := 19) rfl rfl) hI rfl hl.1 rfl (Nat.le_of_ble_eq_true rfl) dX5_shiftedRegister_59 (fun H locs hI => ?_)
    exact cx_iret C hI (congrArg Prod.fst hF) (congrArg Prod.snd hF) dX5_shiftedRegister_62
def cProcessor_shiftedRegister (st : CS) (x1 : Int32) (x2 : Int32) : CS × Int32 := (if ((cProcessor_part st (0 : Int32)) = (15 : Int32)) then (cProcessor_shiftedRegister_b26 st x1 (cProcessor_withSigns st x2)) else (cProcessor_shiftedRegister_b26 st x1 (cProcessor_operand st (cProcessor_part st (0 : Int32)) x2)))
set_option maxHeartbeats 4000000 in
set_option maxRecDepth 100000 in
theorem k_cProcessor_shiftedRegister {p : Program} {l : Launch} {e : Env} {s : State} {m : MethodId} {args : Array Value} {below : List Frame} {meth : Method} {c : Code} {A : Nat → Prop} (g : Gm) (C : cX p s m args meth c A cX5_shiftedRegister (some .int) 5 RX5 wq_X5_shiftedRegister (gD g) vwCl (cty g) (cz g)) (st : CS) (x1 : Int32) (x2 : Int32) (H : Heap) (locs : List Loc) (ls : Array Slot) (hI : cI (gD g) vwCl (cw g) A s st H locs) (hl : lv_has ls 5 [(0, .ref (gad g 19)), (1, .int x1), (2, .int x2)]) (X : CS × Int32) (hF : X = cProcessor_shiftedRegister st x1 x2) : W p l e rm_cProcessor_shiftedRegister s m args below meth c H locs 0 0 (MQ below (cQi (gD g) vwCl (cty g) (cw g) A X.1 X.2) args s 0 0 A) (F0 m 0 ls []) := by
  obtain ⟨hx, hb, hr, hml, hown, hts, hlocks, hK, hA, hZ, hzo⟩ := id C
  unfold cProcessor_shiftedRegister at hF
  refine lv_aload_n hx hb dX5_shiftedRegister_0 rfl (lv_at hl 0 rfl) ?_
  refine lv_iconst (v := (0 : Int32)) hx hb dX5_shiftedRegister_1 (by decide) ?_
  refine cx_Vi (As := [.int (0 : Int32)]) (rest := []) C (c_cProcessor_part l g st (0 : Int32)) (cwV 1 hts (gd_V _ mw393 mw394 mw395 mw46 mw396) rfl rfl rfl yd_yX5_part ⟨Nat.le_of_ble_eq_true rfl, Nat.le_of_ble_eq_true rfl⟩) (va_recv hK hI.1 (ci := 5) (q0 := 19) rfl rfl) hI rfl hl.1 rfl (Nat.le_of_ble_eq_true rfl) dX5_shiftedRegister_2 (fun H locs hI => ?_)
  refine lv_istore_n (lv' := [(3, .int (cProcessor_part st (0 : Int32))), (0, .ref (gad g 19)), (1, .int x1), (2, .int x2)]) hx hb dX5_shiftedRegister_5 rfl hl (by decide) rfl (fun ls hl => ?_)
  refine lv_iload_n hx hb dX5_shiftedRegister_6 rfl (lv_at hl 0 rfl) ?_
  refine lv_bipush (v := (15 : Int32)) hx hb dX5_shiftedRegister_7 (by decide) ?_
  refine lv_icmp_ne (tgt := 20) hx hb dX5_shiftedRegister_9 (by decide) (fun c_9 => ?_) (fun c_9 => ?_)
  · have hF := hF.trans (if_neg c_9)
    refine lv_aload_n hx hb dX5_shiftedRegister_20 rfl (lv_at hl 1 rfl) ?_
    refine lv_iload_n hx hb dX5_shiftedRegister_21 rfl (lv_at hl 0 rfl) ?_
    refine lv_iload_n hx hb dX5_shiftedRegister_22 rfl (lv_at hl 3 rfl) ?_
    refine cx_Vi (As := [.int (cProcessor_part st (0 : Int32)), .int x2]) (rest := []) C (c_cProcessor_operand l g st (cProcessor_part st (0 : Int32)) x2) (cwV 2 hts (gd_V _ mw444 mw445 mw446 mw46 mw447) rfl rfl rfl yd_yX5_operand ⟨Nat.le_of_ble_eq_true rfl, Nat.le_of_ble_eq_true rfl⟩) (va_recv hK hI.1 (ci := 5) (q0 := 19) rfl rfl) hI rfl hl.1 rfl (Nat.le_of_ble_eq_true rfl) dX5_shiftedRegister_23 (fun H locs hI => ?_)
    exact k_cProcessor_shiftedRegister_b26 g C st x1 (cProcessor_operand st (cProcessor_part st (0 : Int32)) x2) H locs ls hI (lv_sub hl [1, 2] rfl) X hF
  · have hF := hF.trans (if_pos c_9)
    refine lv_aload_n hx hb dX5_shiftedRegister_12 rfl (lv_at hl 1 rfl) ?_
    refine lv_iload_n hx hb dX5_shiftedRegister_13 rfl (lv_at hl 3 rfl) ?_
    refine cx_Vi (As := [.int x2]) (rest := []) C (c_cProcessor_withSigns l g st x2) (cwV 1 hts (gd_V _ mw406 mw407 mw408 mw46 mw409) rfl rfl rfl yd_yX5_withSigns ⟨Nat.le_of_ble_eq_true rfl, Nat.le_of_ble_eq_true rfl⟩) (va_recv hK hI.1 (ci := 5) (q0 := 19) rfl rfl) hI rfl hl.1 rfl (Nat.le_of_ble_eq_true rfl) dX5_shiftedRegister_14 (fun H locs hI => ?_)
    refine lv_goto (tgt := 26) hx hb dX5_shiftedRegister_17 (by decide) ?_
    exact k_cProcessor_shiftedRegister_b26 g C st x1 (cProcessor_withSigns st x2) H locs ls hI (lv_sub hl [1, 2] rfl) X hF
set_option maxHeartbeats 4000000 in
set_option maxRecDepth 100000 in
theorem c_cProcessor_shiftedRegister (l : Launch) (g : Gm) (st : CS) (x1 : Int32) (x2 : Int32) : Mi l yX5_shiftedRegister wq_X5_shiftedRegister rm_cProcessor_shiftedRegister (gD g) vwCl (cty g) (cw g) (cz g) [.ref (gad g 19), .int x1, .int x2] st (cProcessor_shiftedRegister st x1 x2).1 (cProcessor_shiftedRegister st x1 x2).2 := by
  intro sz
  refine Met.ofW (cc := cX5_shiftedRegister) (maxL := 5) (ret := (some .int)) (by decide) rfl ?_
  intro p e s m args below meth c s₁ B hml hv
  obtain ⟨rfl, hsz, hP, hK, hD0, hZ⟩ := hv
  subst hsz
  have hl := lv_entry ([.ref (gad g 19), .int x1, .int x2]) (n := 5) (Nat.le_of_ble_eq_true rfl)
  rw [lg_entry_eq]
  generalize (lg_sl ([.ref (gad g 19), .int x1, .int x2]) ++ List.replicate (5 - (lg_sl ([.ref (gad g 19), .int x1, .int x2])).length) Slot.unset).toArray = ls at hl ⊢
  exact k_cProcessor_shiftedRegister g ⟨B.exec, B.bytes, B.returns, hml, findClass_of_methodNamed B.named, atoms_spec (ws := wq_X5_shiftedRegister) B.pre, B.notSynchronized, hK, fun q h => Or.inr h, hZ, cz_ok g⟩ st x1 x2 _ _ ls ⟨hP, hD0.self, va_S.rf⟩ hl _ rfl
abbrev wq_X5_sum : List Cond := .code yX5_sum cX5_sum 7 (some .int) :: wAll
theorem yd_yX5_sum : yX5_sum.cls = RX5 ∧ yX5_sum.cls ≠ "java/lang/invoke/MethodHandle" ∧ yX5_sum.cls ≠ "java/lang/invoke/VarHandle" ∧ (parseMethodDescriptor yX5_sum.desc).map (fun d => d.parameters.length) = some 3 := by decide +kernel
abbrev rm_cProcessor_sum : Room := { frames := 0, cells := 0, slots := 0, locals := 0 }
def cProcessor_sum (st : CS) (x1 : Int32) (x2 : Int32) (x3 : Int32) : CS × Int32 := ((sI (sI st 33 ((ulshr ((((x1.toInt64) &&& (4294967295 : Int64)) + ((x2.toInt64) &&& (4294967295 : Int64))) + (x3.toInt64)) (32 : Int32)).toInt32)) 34 (ushr ((x1 ^^^ (((((x1.toInt64) &&& (4294967295 : Int64)) + ((x2.toInt64) &&& (4294967295 : Int64))) + (x3.toInt64)).toInt32)) &&& (x2 ^^^ (((((x1.toInt64) &&& (4294967295 : Int64)) + ((x2.toInt64) &&& (4294967295 : Int64))) + (x3.toInt64)).toInt32))) (31 : Int32))), (((((x1.toInt64) &&& (4294967295 : Int64)) + ((x2.toInt64) &&& (4294967295 : Int64))) + (x3.toInt64)).toInt32))
set_option maxHeartbeats 4000000 in
set_option maxRecDepth 100000 in
theorem k_cProcessor_sum {p : Program} {l : Launch} {e : Env} {s : State} {m : MethodId} {args : Array Value} {below : List Frame} {meth : Method} {c : Code} {A : Nat → Prop} (g : Gm) (C : cX p s m args meth c A cX5_sum (some .int) 7 RX5 wq_X5_sum (gD g) vwCl (cty g) (cz g)) (st : CS) (x1 : Int32) (x2 : Int32) (x3 : Int32) (H : Heap) (locs : List Loc) (ls : Array Slot) (hI : cI (gD g) vwCl (cw g) A s st H locs) (hl : lv_has ls 7 [(0, .ref (gad g 19)), (1, .int x1), (2, .int x2), (3, .int x3)]) (X : CS × Int32) (hF : X = cProcessor_sum st x1 x2 x3) : W p l e rm_cProcessor_sum s m args below meth c H locs 0 0 (MQ below (cQi (gD g) vwCl (cty g) (cw g) A X.1 X.2) args s 0 0 A) (F0 m 0 ls []) := by
  obtain ⟨hx, hb, hr, hml, hown, hts, hlocks, hK, hA, hZ, hzo⟩ := id C
  unfold cProcessor_sum at hF
  refine lv_iload_n hx hb dX5_sum_0 rfl (lv_at hl 1 rfl) ?_
  refine lv_i2l (v := (x1.toInt64)) hx hb dX5_sum_1 rfl ?_
  refine lv_ldc2 (v := (4294967295 : Int64)) hx hb hown (hts _ (List.mem_cons_of_mem _ mw472)) dX5_sum_2 ?_
  refine lv_land hx hb dX5_sum_5 ?_
  refine lv_iload_n hx hb dX5_sum_6 rfl (lv_at hl 2 rfl) ?_
  refine lv_i2l (v := (x2.toInt64)) hx hb dX5_sum_7 rfl ?_
  refine lv_ldc2 (v := (4294967295 : Int64)) hx hb hown (hts _ (List.mem_cons_of_mem _ mw472)) dX5_sum_8 ?_
  refine lv_land hx hb dX5_sum_11 ?_
  refine lv_ladd hx hb dX5_sum_12 ?_
  refine lv_iload_n hx hb dX5_sum_13 rfl (lv_at hl 3 rfl) ?_
  refine lv_i2l (v := (x3.toInt64)) hx hb dX5_sum_14 rfl ?_
  refine lv_ladd hx hb dX5_sum_15 ?_
  refine lv_lstore (lv' := [(4, .long ((((x1.toInt64) &&& (4294967295 : Int64)) + ((x2.toInt64) &&& (4294967295 : Int64))) + (x3.toInt64))), (0, .ref (gad g 19)), (1, .int x1), (2, .int x2), (3, .int x3)]) hx hb dX5_sum_16 hl (by decide) rfl (fun ls hl => ?_)
  refine lv_lload hx hb dX5_sum_18 (lv_at hl 0 rfl) ?_
  refine lv_l2i (v := (((((x1.toInt64) &&& (4294967295 : Int64)) + ((x2.toInt64) &&& (4294967295 : Int64))) + (x3.toInt64)).toInt32)) hx hb dX5_sum_20 rfl ?_
  refine lv_istore (lv' := [(6, .int (((((x1.toInt64) &&& (4294967295 : Int64)) + ((x2.toInt64) &&& (4294967295 : Int64))) + (x3.toInt64)).toInt32)), (4, .long ((((x1.toInt64) &&& (4294967295 : Int64)) + ((x2.toInt64) &&& (4294967295 : Int64))) + (x3.toInt64))), (0, .ref (gad g 19)), (1, .int x1), (2, .int x2), (3, .int x3)]) hx hb dX5_sum_21 hl (by decide) rfl (fun ls hl => ?_)
  refine lv_aload_n hx hb dX5_sum_23 rfl (lv_at hl 2 rfl) ?_
  refine lv_lload hx hb dX5_sum_24 (lv_at hl 1 rfl) ?_
  refine lv_bipush (v := (32 : Int32)) hx hb dX5_sum_26 (by decide) ?_
  refine lv_lushr (v := (ulshr ((((x1.toInt64) &&& (4294967295 : Int64)) + ((x2.toInt64) &&& (4294967295 : Int64))) + (x3.toInt64)) (32 : Int32))) hx hb dX5_sum_28 rfl ?_
  refine lv_l2i (v := ((ulshr ((((x1.toInt64) &&& (4294967295 : Int64)) + ((x2.toInt64) &&& (4294967295 : Int64))) + (x3.toInt64)) (32 : Int32)).toInt32)) hx hb dX5_sum_29 rfl ?_
  refine va_put (D := gD g) (ci := 5) (C := RX5) (T := TX5) (N := 10) (v := .int ((ulshr ((((x1.toInt64) &&& (4294967295 : Int64)) + ((x2.toInt64) &&& (4294967295 : Int64))) + (x3.toInt64)) (32 : Int32)).toInt32)) (ty := .int) hx hb hts (fun w h => List.mem_cons_of_mem _ (isX50 w h)) tyX5 tyX5_ok nmX5 hown hK hI.1 hI.2.1 hI.2.2 19 rfl rfl 7 (by decide) (hts _ (List.mem_cons_of_mem _ mw432)) (fun _ h9 => h9) rfl (by decide +kernel) rfl rfl (Nat.le_of_ble_eq_true rfl) dX5_sum_30 (fun H locs hP hD hS => ?_)
  have hI : cI (gD g) vwCl (cw g) A s (sI st 33 ((ulshr ((((x1.toInt64) &&& (4294967295 : Int64)) + ((x2.toInt64) &&& (4294967295 : Int64))) + (x3.toInt64)) (32 : Int32)).toInt32)) H locs := ⟨hP, hD, hS⟩
  refine lv_aload_n hx hb dX5_sum_33 rfl (lv_at hl 2 rfl) ?_
  refine lv_iload_n hx hb dX5_sum_34 rfl (lv_at hl 3 rfl) ?_
  refine lv_iload hx hb dX5_sum_35 (lv_at hl 0 rfl) ?_
  refine lv_ixor hx hb dX5_sum_37 ?_
  refine lv_iload_n hx hb dX5_sum_38 rfl (lv_at hl 4 rfl) ?_
  refine lv_iload hx hb dX5_sum_39 (lv_at hl 0 rfl) ?_
  refine lv_ixor hx hb dX5_sum_41 ?_
  refine lv_iand hx hb dX5_sum_42 ?_
  refine lv_bipush (v := (31 : Int32)) hx hb dX5_sum_43 (by decide) ?_
  refine lv_iushr (v := (ushr ((x1 ^^^ (((((x1.toInt64) &&& (4294967295 : Int64)) + ((x2.toInt64) &&& (4294967295 : Int64))) + (x3.toInt64)).toInt32)) &&& (x2 ^^^ (((((x1.toInt64) &&& (4294967295 : Int64)) + ((x2.toInt64) &&& (4294967295 : Int64))) + (x3.toInt64)).toInt32))) (31 : Int32))) hx hb dX5_sum_45 rfl ?_
  refine va_put (D := gD g) (ci := 5) (C := RX5) (T := TX5) (N := 10) (v := .int (ushr ((x1 ^^^ (((((x1.toInt64) &&& (4294967295 : Int64)) + ((x2.toInt64) &&& (4294967295 : Int64))) + (x3.toInt64)).toInt32)) &&& (x2 ^^^ (((((x1.toInt64) &&& (4294967295 : Int64)) + ((x2.toInt64) &&& (4294967295 : Int64))) + (x3.toInt64)).toInt32))) (31 : Int32))) (ty := .int) hx hb hts (fun w h => List.mem_cons_of_mem _ (isX50 w h)) tyX5 tyX5_ok nmX5 hown hK hI.1 hI.2.1 hI.2.2 19 rfl rfl 8 (by decide) (hts _ (List.mem_cons_of_mem _ mw392)) (fun _ h9 => h9) rfl (by decide +kernel) rfl rfl (Nat.le_of_ble_eq_true rfl) dX5_sum_46 (fun H locs hP hD hS => ?_)
  have hI : cI (gD g) vwCl (cw g) A s (sI (sI st 33 ((ulshr ((((x1.toInt64) &&& (4294967295 : Int64)) + ((x2.toInt64) &&& (4294967295 : Int64))) + (x3.toInt64)) (32 : Int32)).toInt32)) 34 (ushr ((x1 ^^^ (((((x1.toInt64) &&& (4294967295 : Int64)) + ((x2.toInt64) &&& (4294967295 : Int64))) + (x3.toInt64)).toInt32)) &&& (x2 ^^^ (((((x1.toInt64) &&& (4294967295 : Int64)) + ((x2.toInt64) &&& (4294967295 : Int64))) + (x3.toInt64)).toInt32))) (31 : Int32))) H locs := ⟨hP, hD, hS⟩
  refine lv_iload hx hb dX5_sum_49 (lv_at hl 0 rfl) ?_
  exact cx_iret C hI (congrArg Prod.fst hF) (congrArg Prod.snd hF) dX5_sum_51
set_option maxHeartbeats 4000000 in
set_option maxRecDepth 100000 in
theorem c_cProcessor_sum (l : Launch) (g : Gm) (st : CS) (x1 : Int32) (x2 : Int32) (x3 : Int32) : Mi l yX5_sum wq_X5_sum rm_cProcessor_sum (gD g) vwCl (cty g) (cw g) (cz g) [.ref (gad g 19), .int x1, .int x2, .int x3] st (cProcessor_sum st x1 x2 x3).1 (cProcessor_sum st x1 x2 x3).2 := by
  intro sz
  refine Met.ofW (cc := cX5_sum) (maxL := 7) (ret := (some .int)) (by decide) rfl ?_
  intro p e s m args below meth c s₁ B hml hv
  obtain ⟨rfl, hsz, hP, hK, hD0, hZ⟩ := hv
  subst hsz
  have hl := lv_entry ([.ref (gad g 19), .int x1, .int x2, .int x3]) (n := 7) (Nat.le_of_ble_eq_true rfl)
  rw [lg_entry_eq]
  generalize (lg_sl ([.ref (gad g 19), .int x1, .int x2, .int x3]) ++ List.replicate (7 - (lg_sl ([.ref (gad g 19), .int x1, .int x2, .int x3])).length) Slot.unset).toArray = ls at hl ⊢
  exact k_cProcessor_sum g ⟨B.exec, B.bytes, B.returns, hml, findClass_of_methodNamed B.named, atoms_spec (ws := wq_X5_sum) B.pre, B.notSynchronized, hK, fun q h => Or.inr h, hZ, cz_ok g⟩ st x1 x2 x3 _ _ ls ⟨hP, hD0.self, va_S.rf⟩ hl _ rfl
abbrev wq_X5_worked : List Cond := .code yX5_worked cX5_worked 4 (some .int) :: wAll
theorem yd_yX5_worked : yX5_worked.cls = RX5 ∧ yX5_worked.cls ≠ "java/lang/invoke/MethodHandle" ∧ yX5_worked.cls ≠ "java/lang/invoke/VarHandle" ∧ (parseMethodDescriptor yX5_worked.desc).map (fun d => d.parameters.length) = some 3 := by decide +kernel
abbrev rm_cProcessor_worked : Room := { frames := 1, cells := 0, slots := 0, locals := 26 }
def cProcessor_worked_b76 (st : CS) (x2 : Int32) (x3 : Int32) : CS × Int32 := (st, (x2 &&& x3))
set_option maxHeartbeats 4000000 in
set_option maxRecDepth 100000 in
theorem k_cProcessor_worked_b76 {p : Program} {l : Launch} {e : Env} {s : State} {m : MethodId} {args : Array Value} {below : List Frame} {meth : Method} {c : Code} {A : Nat → Prop} (g : Gm) (C : cX p s m args meth c A cX5_worked (some .int) 4 RX5 wq_X5_worked (gD g) vwCl (cty g) (cz g)) (st : CS) (x2 : Int32) (x3 : Int32) (H : Heap) (locs : List Loc) (ls : Array Slot) (hI : cI (gD g) vwCl (cw g) A s st H locs) (hl : lv_has ls 4 [(0, .ref (gad g 19)), (2, .int x2), (3, .int x3)]) (X : CS × Int32) (hF : X = cProcessor_worked_b76 st x2 x3) : W p l e rm_cProcessor_worked s m args below meth c H locs 0 0 (MQ below (cQi (gD g) vwCl (cty g) (cw g) A X.1 X.2) args s 0 0 A) (F0 m 76 ls []) := by
  obtain ⟨hx, hb, hr, hml, hown, hts, hlocks, hK, hA, hZ, hzo⟩ := id C
  unfold cProcessor_worked_b76 at hF
  refine lv_iload_n hx hb dX5_worked_76 rfl (lv_at hl 1 rfl) ?_
  refine lv_iload_n hx hb dX5_worked_77 rfl (lv_at hl 2 rfl) ?_
  refine lv_iand hx hb dX5_worked_78 ?_
  exact cx_iret C hI (congrArg Prod.fst hF) (congrArg Prod.snd hF) dX5_worked_79
def cProcessor_worked_b80 (st : CS) (x2 : Int32) (x3 : Int32) : CS × Int32 := (st, (x2 ^^^ x3))
set_option maxHeartbeats 4000000 in
set_option maxRecDepth 100000 in
theorem k_cProcessor_worked_b80 {p : Program} {l : Launch} {e : Env} {s : State} {m : MethodId} {args : Array Value} {below : List Frame} {meth : Method} {c : Code} {A : Nat → Prop} (g : Gm) (C : cX p s m args meth c A cX5_worked (some .int) 4 RX5 wq_X5_worked (gD g) vwCl (cty g) (cz g)) (st : CS) (x2 : Int32) (x3 : Int32) (H : Heap) (locs : List Loc) (ls : Array Slot) (hI : cI (gD g) vwCl (cw g) A s st H locs) (hl : lv_has ls 4 [(0, .ref (gad g 19)), (2, .int x2), (3, .int x3)]) (X : CS × Int32) (hF : X = cProcessor_worked_b80 st x2 x3) : W p l e rm_cProcessor_worked s m args below meth c H locs 0 0 (MQ below (cQi (gD g) vwCl (cty g) (cw g) A X.1 X.2) args s 0 0 A) (F0 m 80 ls []) := by
  obtain ⟨hx, hb, hr, hml, hown, hts, hlocks, hK, hA, hZ, hzo⟩ := id C
  unfold cProcessor_worked_b80 at hF
  refine lv_iload_n hx hb dX5_worked_80 rfl (lv_at hl 1 rfl) ?_
  refine lv_iload_n hx hb dX5_worked_81 rfl (lv_at hl 2 rfl) ?_
  refine lv_ixor hx hb dX5_worked_82 ?_
  exact cx_iret C hI (congrArg Prod.fst hF) (congrArg Prod.snd hF) dX5_worked_83
def cProcessor_worked_b84 (st : CS) (x2 : Int32) (x3 : Int32) : CS × Int32 := ((cProcessor_sum st x2 (x3 ^^^ (-1 : Int32)) (1 : Int32)).1, (cProcessor_sum st x2 (x3 ^^^ (-1 : Int32)) (1 : Int32)).2)
set_option maxHeartbeats 4000000 in
set_option maxRecDepth 100000 in
theorem k_cProcessor_worked_b84 {p : Program} {l : Launch} {e : Env} {s : State} {m : MethodId} {args : Array Value} {below : List Frame} {meth : Method} {c : Code} {A : Nat → Prop} (g : Gm) (C : cX p s m args meth c A cX5_worked (some .int) 4 RX5 wq_X5_worked (gD g) vwCl (cty g) (cz g)) (st : CS) (x2 : Int32) (x3 : Int32) (H : Heap) (locs : List Loc) (ls : Array Slot) (hI : cI (gD g) vwCl (cw g) A s st H locs) (hl : lv_has ls 4 [(0, .ref (gad g 19)), (2, .int x2), (3, .int x3)]) (X : CS × Int32) (hF : X = cProcessor_worked_b84 st x2 x3) : W p l e rm_cProcessor_worked s m args below meth c H locs 0 0 (MQ below (cQi (gD g) vwCl (cty g) (cw g) A X.1 X.2) args s 0 0 A) (F0 m 84 ls []) := by
  obtain ⟨hx, hb, hr, hml, hown, hts, hlocks, hK, hA, hZ, hzo⟩ := id C
  unfold cProcessor_worked_b84 at hF
  refine lv_aload_n hx hb dX5_worked_84 rfl (lv_at hl 0 rfl) ?_
  refine lv_iload_n hx hb dX5_worked_85 rfl (lv_at hl 1 rfl) ?_
  refine lv_iload_n hx hb dX5_worked_86 rfl (lv_at hl 2 rfl) ?_
  refine lv_iconst (v := (-1 : Int32)) hx hb dX5_worked_87 (by decide) ?_
  refine lv_ixor hx hb dX5_worked_88 ?_
  refine lv_iconst (v := (1 : Int32)) hx hb dX5_worked_89 (by decide) ?_
  refine cx_Vi (As := [.int x2, .int (x3 ^^^ (-1 : Int32)), .int (1 : Int32)]) (rest := []) C (c_cProcessor_sum l g st x2 (x3 ^^^ (-1 : Int32)) (1 : Int32)) (cwV 3 hts (gd_V _ mw468 mw469 mw470 mw46 mw471) rfl rfl rfl yd_yX5_sum ⟨Nat.le_of_ble_eq_true rfl, Nat.le_of_ble_eq_true rfl⟩) (va_recv hK hI.1 (ci := 5) (q0 := 19) rfl rfl) hI rfl hl.1 rfl (Nat.le_of_ble_eq_true rfl) dX5_worked_90 (fun H locs hI => ?_)
  exact cx_iret C hI (congrArg Prod.fst hF) (congrArg Prod.snd hF) dX5_worked_93
def cProcessor_worked_b104 (st : CS) (x2 : Int32) (x3 : Int32) : CS × Int32 := ((cProcessor_sum st x2 x3 (0 : Int32)).1, (cProcessor_sum st x2 x3 (0 : Int32)).2)
set_option maxHeartbeats 4000000 in
set_option maxRecDepth 100000 in
theorem k_cProcessor_worked_b104 {p : Program} {l : Launch} {e : Env} {s : State} {m : MethodId} {args : Array Value} {below : List Frame} {meth : Method} {c : Code} {A : Nat → Prop} (g : Gm) (C : cX p s m args meth c A cX5_worked (some .int) 4 RX5 wq_X5_worked (gD g) vwCl (cty g) (cz g)) (st : CS) (x2 : Int32) (x3 : Int32) (H : Heap) (locs : List Loc) (ls : Array Slot) (hI : cI (gD g) vwCl (cw g) A s st H locs) (hl : lv_has ls 4 [(0, .ref (gad g 19)), (2, .int x2), (3, .int x3)]) (X : CS × Int32) (hF : X = cProcessor_worked_b104 st x2 x3) : W p l e rm_cProcessor_worked s m args below meth c H locs 0 0 (MQ below (cQi (gD g) vwCl (cty g) (cw g) A X.1 X.2) args s 0 0 A) (F0 m 104 ls []) := by
  obtain ⟨hx, hb, hr, hml, hown, hts, hlocks, hK, hA, hZ, hzo⟩ := id C
  unfold cProcessor_worked_b104 at hF
  refine lv_aload_n hx hb dX5_worked_104 rfl (lv_at hl 0 rfl) ?_
  refine lv_iload_n hx hb dX5_worked_105 rfl (lv_at hl 1 rfl) ?_
  refine lv_iload_n hx hb dX5_worked_106 rfl (lv_at hl 2 rfl) ?_
  refine lv_iconst (v := (0 : Int32)) hx hb dX5_worked_107 (by decide) ?_
  refine cx_Vi (As := [.int x2, .int x3, .int (0 : Int32)]) (rest := []) C (c_cProcessor_sum l g st x2 x3 (0 : Int32)) (cwV 3 hts (gd_V _ mw468 mw469 mw470 mw46 mw471) rfl rfl rfl yd_yX5_sum ⟨Nat.le_of_ble_eq_true rfl, Nat.le_of_ble_eq_true rfl⟩) (va_recv hK hI.1 (ci := 5) (q0 := 19) rfl rfl) hI rfl hl.1 rfl (Nat.le_of_ble_eq_true rfl) dX5_worked_108 (fun H locs hI => ?_)
  exact cx_iret C hI (congrArg Prod.fst hF) (congrArg Prod.snd hF) dX5_worked_111
def cProcessor_worked (st : CS) (x1 : Int32) (x2 : Int32) (x3 : Int32) : CS × Int32 := (if x1 = (0 : Int32) then (cProcessor_worked_b76 st x2 x3) else (if x1 = (1 : Int32) then (cProcessor_worked_b80 st x2 x3) else (if x1 = (2 : Int32) then (cProcessor_worked_b84 st x2 x3) else (if x1 = (3 : Int32) then ((cProcessor_sum st x3 (x2 ^^^ (-1 : Int32)) (1 : Int32)).1, (cProcessor_sum st x3 (x2 ^^^ (-1 : Int32)) (1 : Int32)).2) else (if x1 = (4 : Int32) then (cProcessor_worked_b104 st x2 x3) else (if x1 = (5 : Int32) then ((cProcessor_sum st x2 x3 (cRegisters_carry st)).1, (cProcessor_sum st x2 x3 (cRegisters_carry st)).2) else (if x1 = (6 : Int32) then ((cProcessor_sum st x2 (x3 ^^^ (-1 : Int32)) (cRegisters_carry st)).1, (cProcessor_sum st x2 (x3 ^^^ (-1 : Int32)) (cRegisters_carry st)).2) else (if x1 = (7 : Int32) then ((cProcessor_sum st x3 (x2 ^^^ (-1 : Int32)) (cRegisters_carry st)).1, (cProcessor_sum st x3 (x2 ^^^ (-1 : Int32)) (cRegisters_carry st)).2) else (if x1 = (8 : Int32) then (cProcessor_worked_b76 st x2 x3) else (if x1 = (9 : Int32) then (cProcessor_worked_b80 st x2 x3) else (if x1 = (10 : Int32) then (cProcessor_worked_b84 st x2 x3) else (if x1 = (11 : Int32) then (cProcessor_worked_b104 st x2 x3) else (if x1 = (12 : Int32) then (st, (x2 ||| x3)) else (if x1 = (13 : Int32) then (st, x3) else (if x1 = (14 : Int32) then (st, (x2 &&& (x3 ^^^ (-1 : Int32)))) else (st, (x3 ^^^ (-1 : Int32))))))))))))))))))
set_option maxHeartbeats 4000000 in
set_option maxRecDepth 100000 in
theorem k_cProcessor_worked {p : Program} {l : Launch} {e : Env} {s : State} {m : MethodId} {args : Array Value} {below : List Frame} {meth : Method} {c : Code} {A : Nat → Prop} (g : Gm) (C : cX p s m args meth c A cX5_worked (some .int) 4 RX5 wq_X5_worked (gD g) vwCl (cty g) (cz g)) (st : CS) (x1 : Int32) (x2 : Int32) (x3 : Int32) (H : Heap) (locs : List Loc) (ls : Array Slot) (hI : cI (gD g) vwCl (cw g) A s st H locs) (hl : lv_has ls 4 [(0, .ref (gad g 19)), (1, .int x1), (2, .int x2), (3, .int x3)]) (X : CS × Int32) (hF : X = cProcessor_worked st x1 x2 x3) : W p l e rm_cProcessor_worked s m args below meth c H locs 0 0 (MQ below (cQi (gD g) vwCl (cty g) (cw g) A X.1 X.2) args s 0 0 A) (F0 m 0 ls []) := by
  obtain ⟨hx, hb, hr, hml, hown, hts, hlocks, hK, hA, hZ, hzo⟩ := id C
  unfold cProcessor_worked at hF
  refine lv_iload_n hx hb dX5_worked_0 rfl (lv_at hl 1 rfl) ?_
  by_cases c_1_0 : x1 = (0 : Int32)
  · have hF := hF.trans (if_pos c_1_0)
    refine lv_tableIn (off := 75) (tgt := 76) hx hb dX5_worked_1 (by rw [c_1_0]; decide) (by rw [c_1_0]; decide) (by rw [c_1_0]; rfl) (by decide) ?_
    exact k_cProcessor_worked_b76 g C st x2 x3 H locs ls hI (lv_sub hl [0, 2, 3] rfl) X hF
  · have hF := hF.trans (if_neg c_1_0)
    by_cases c_1_1 : x1 = (1 : Int32)
    · have hF := hF.trans (if_pos c_1_1)
      refine lv_tableIn (off := 79) (tgt := 80) hx hb dX5_worked_1 (by rw [c_1_1]; decide) (by rw [c_1_1]; decide) (by rw [c_1_1]; rfl) (by decide) ?_
      exact k_cProcessor_worked_b80 g C st x2 x3 H locs ls hI (lv_sub hl [0, 2, 3] rfl) X hF
    · have hF := hF.trans (if_neg c_1_1)
      by_cases c_1_2 : x1 = (2 : Int32)
      · have hF := hF.trans (if_pos c_1_2)
        refine lv_tableIn (off := 83) (tgt := 84) hx hb dX5_worked_1 (by rw [c_1_2]; decide) (by rw [c_1_2]; decide) (by rw [c_1_2]; rfl) (by decide) ?_
        exact k_cProcessor_worked_b84 g C st x2 x3 H locs ls hI (lv_sub hl [0, 2, 3] rfl) X hF
      · have hF := hF.trans (if_neg c_1_2)
        by_cases c_1_3 : x1 = (3 : Int32)
        · have hF := hF.trans (if_pos c_1_3)
          refine lv_tableIn (off := 93) (tgt := 94) hx hb dX5_worked_1 (by rw [c_1_3]; decide) (by rw [c_1_3]; decide) (by rw [c_1_3]; rfl) (by decide) ?_
          refine lv_aload_n hx hb dX5_worked_94 rfl (lv_at hl 0 rfl) ?_
          refine lv_iload_n hx hb dX5_worked_95 rfl (lv_at hl 3 rfl) ?_
          refine lv_iload_n hx hb dX5_worked_96 rfl (lv_at hl 2 rfl) ?_
          refine lv_iconst (v := (-1 : Int32)) hx hb dX5_worked_97 (by decide) ?_
          refine lv_ixor hx hb dX5_worked_98 ?_
          refine lv_iconst (v := (1 : Int32)) hx hb dX5_worked_99 (by decide) ?_
          refine cx_Vi (As := [.int x3, .int (x2 ^^^ (-1 : Int32)), .int (1 : Int32)]) (rest := []) C (c_cProcessor_sum l g st x3 (x2 ^^^ (-1 : Int32)) (1 : Int32)) (cwV 3 hts (gd_V _ mw468 mw469 mw470 mw46 mw471) rfl rfl rfl yd_yX5_sum ⟨Nat.le_of_ble_eq_true rfl, Nat.le_of_ble_eq_true rfl⟩) (va_recv hK hI.1 (ci := 5) (q0 := 19) rfl rfl) hI rfl hl.1 rfl (Nat.le_of_ble_eq_true rfl) dX5_worked_100 (fun H locs hI => ?_)
          exact cx_iret C hI (congrArg Prod.fst hF) (congrArg Prod.snd hF) dX5_worked_103
        · have hF := hF.trans (if_neg c_1_3)
          by_cases c_1_4 : x1 = (4 : Int32)
          · have hF := hF.trans (if_pos c_1_4)
            refine lv_tableIn (off := 103) (tgt := 104) hx hb dX5_worked_1 (by rw [c_1_4]; decide) (by rw [c_1_4]; decide) (by rw [c_1_4]; rfl) (by decide) ?_
            exact k_cProcessor_worked_b104 g C st x2 x3 H locs ls hI (lv_sub hl [0, 2, 3] rfl) X hF
          · have hF := hF.trans (if_neg c_1_4)
            by_cases c_1_5 : x1 = (5 : Int32)
            · have hF := hF.trans (if_pos c_1_5)
              refine lv_tableIn (off := 111) (tgt := 112) hx hb dX5_worked_1 (by rw [c_1_5]; decide) (by rw [c_1_5]; decide) (by rw [c_1_5]; rfl) (by decide) ?_
              refine lv_aload_n hx hb dX5_worked_112 rfl (lv_at hl 0 rfl) ?_
              refine lv_iload_n hx hb dX5_worked_113 rfl (lv_at hl 2 rfl) ?_
              refine lv_iload_n hx hb dX5_worked_114 rfl (lv_at hl 3 rfl) ?_
              refine lv_aload_n hx hb dX5_worked_115 rfl (lv_at hl 0 rfl) ?_
              refine va_get (D := gD g) (ci := 5) (C := RX5) (T := TX5) (N := 10) (v := .ref (gad g 2)) hx hb hts (fun w h => List.mem_cons_of_mem _ (isX50 w h)) hown hK hI.1 19 rfl rfl 0 (by decide) (hts _ (List.mem_cons_of_mem _ mw112)) (fun _ h9 => h9) rfl dX5_worked_116 ?_
              refine cx_Vi (As := []) (rest := [.int x3, .int x2, .ref (gad g 19)]) C (c_cRegisters_carry l g st ) (cwV 0 hts (gd_V _ mw436 mw437 mw438 mw14 mw439) rfl rfl rfl yd_yX6_carry ⟨Nat.le_of_ble_eq_true rfl, Nat.le_of_ble_eq_true rfl⟩) (va_recv hK hI.1 (ci := 6) (q0 := 2) rfl rfl) hI rfl hl.1 rfl (Nat.le_of_ble_eq_true rfl) dX5_worked_119 (fun H locs hI => ?_)
              refine cx_Vi (As := [.int x2, .int x3, .int (cRegisters_carry st)]) (rest := []) C (c_cProcessor_sum l g st x2 x3 (cRegisters_carry st)) (cwV 3 hts (gd_V _ mw468 mw469 mw470 mw46 mw471) rfl rfl rfl yd_yX5_sum ⟨Nat.le_of_ble_eq_true rfl, Nat.le_of_ble_eq_true rfl⟩) (va_recv hK hI.1 (ci := 5) (q0 := 19) rfl rfl) hI rfl hl.1 rfl (Nat.le_of_ble_eq_true rfl) dX5_worked_122 (fun H locs hI => ?_)
              exact cx_iret C hI (congrArg Prod.fst hF) (congrArg Prod.snd hF) dX5_worked_125
            · have hF := hF.trans (if_neg c_1_5)
              by_cases c_1_6 : x1 = (6 : Int32)
              · have hF := hF.trans (if_pos c_1_6)
                refine lv_tableIn (off := 125) (tgt := 126) hx hb dX5_worked_1 (by rw [c_1_6]; decide) (by rw [c_1_6]; decide) (by rw [c_1_6]; rfl) (by decide) ?_
                refine lv_aload_n hx hb dX5_worked_126 rfl (lv_at hl 0 rfl) ?_
                refine lv_iload_n hx hb dX5_worked_127 rfl (lv_at hl 2 rfl) ?_
                refine lv_iload_n hx hb dX5_worked_128 rfl (lv_at hl 3 rfl) ?_
                refine lv_iconst (v := (-1 : Int32)) hx hb dX5_worked_129 (by decide) ?_
                refine lv_ixor hx hb dX5_worked_130 ?_
                refine lv_aload_n hx hb dX5_worked_131 rfl (lv_at hl 0 rfl) ?_
                refine va_get (D := gD g) (ci := 5) (C := RX5) (T := TX5) (N := 10) (v := .ref (gad g 2)) hx hb hts (fun w h => List.mem_cons_of_mem _ (isX50 w h)) hown hK hI.1 19 rfl rfl 0 (by decide) (hts _ (List.mem_cons_of_mem _ mw112)) (fun _ h9 => h9) rfl dX5_worked_132 ?_
                refine cx_Vi (As := []) (rest := [.int (x3 ^^^ (-1 : Int32)), .int x2, .ref (gad g 19)]) C (c_cRegisters_carry l g st ) (cwV 0 hts (gd_V _ mw436 mw437 mw438 mw14 mw439) rfl rfl rfl yd_yX6_carry ⟨Nat.le_of_ble_eq_true rfl, Nat.le_of_ble_eq_true rfl⟩) (va_recv hK hI.1 (ci := 6) (q0 := 2) rfl rfl) hI rfl hl.1 rfl (Nat.le_of_ble_eq_true rfl) dX5_worked_135 (fun H locs hI => ?_)
                refine cx_Vi (As := [.int x2, .int (x3 ^^^ (-1 : Int32)), .int (cRegisters_carry st)]) (rest := []) C (c_cProcessor_sum l g st x2 (x3 ^^^ (-1 : Int32)) (cRegisters_carry st)) (cwV 3 hts (gd_V _ mw468 mw469 mw470 mw46 mw471) rfl rfl rfl yd_yX5_sum ⟨Nat.le_of_ble_eq_true rfl, Nat.le_of_ble_eq_true rfl⟩) (va_recv hK hI.1 (ci := 5) (q0 := 19) rfl rfl) hI rfl hl.1 rfl (Nat.le_of_ble_eq_true rfl) dX5_worked_138 (fun H locs hI => ?_)
                exact cx_iret C hI (congrArg Prod.fst hF) (congrArg Prod.snd hF) dX5_worked_141
              · have hF := hF.trans (if_neg c_1_6)
                by_cases c_1_7 : x1 = (7 : Int32)
                · have hF := hF.trans (if_pos c_1_7)
                  refine lv_tableIn (off := 141) (tgt := 142) hx hb dX5_worked_1 (by rw [c_1_7]; decide) (by rw [c_1_7]; decide) (by rw [c_1_7]; rfl) (by decide) ?_
                  refine lv_aload_n hx hb dX5_worked_142 rfl (lv_at hl 0 rfl) ?_
                  refine lv_iload_n hx hb dX5_worked_143 rfl (lv_at hl 3 rfl) ?_
                  refine lv_iload_n hx hb dX5_worked_144 rfl (lv_at hl 2 rfl) ?_
                  refine lv_iconst (v := (-1 : Int32)) hx hb dX5_worked_145 (by decide) ?_
                  refine lv_ixor hx hb dX5_worked_146 ?_
                  refine lv_aload_n hx hb dX5_worked_147 rfl (lv_at hl 0 rfl) ?_
                  refine va_get (D := gD g) (ci := 5) (C := RX5) (T := TX5) (N := 10) (v := .ref (gad g 2)) hx hb hts (fun w h => List.mem_cons_of_mem _ (isX50 w h)) hown hK hI.1 19 rfl rfl 0 (by decide) (hts _ (List.mem_cons_of_mem _ mw112)) (fun _ h9 => h9) rfl dX5_worked_148 ?_
                  refine cx_Vi (As := []) (rest := [.int (x2 ^^^ (-1 : Int32)), .int x3, .ref (gad g 19)]) C (c_cRegisters_carry l g st ) (cwV 0 hts (gd_V _ mw436 mw437 mw438 mw14 mw439) rfl rfl rfl yd_yX6_carry ⟨Nat.le_of_ble_eq_true rfl, Nat.le_of_ble_eq_true rfl⟩) (va_recv hK hI.1 (ci := 6) (q0 := 2) rfl rfl) hI rfl hl.1 rfl (Nat.le_of_ble_eq_true rfl) dX5_worked_151 (fun H locs hI => ?_)
                  refine cx_Vi (As := [.int x3, .int (x2 ^^^ (-1 : Int32)), .int (cRegisters_carry st)]) (rest := []) C (c_cProcessor_sum l g st x3 (x2 ^^^ (-1 : Int32)) (cRegisters_carry st)) (cwV 3 hts (gd_V _ mw468 mw469 mw470 mw46 mw471) rfl rfl rfl yd_yX5_sum ⟨Nat.le_of_ble_eq_true rfl, Nat.le_of_ble_eq_true rfl⟩) (va_recv hK hI.1 (ci := 5) (q0 := 19) rfl rfl) hI rfl hl.1 rfl (Nat.le_of_ble_eq_true rfl) dX5_worked_154 (fun H locs hI => ?_)
                  exact cx_iret C hI (congrArg Prod.fst hF) (congrArg Prod.snd hF) dX5_worked_157
                · have hF := hF.trans (if_neg c_1_7)
                  by_cases c_1_8 : x1 = (8 : Int32)
                  · have hF := hF.trans (if_pos c_1_8)
                    refine lv_tableIn (off := 75) (tgt := 76) hx hb dX5_worked_1 (by rw [c_1_8]; decide) (by rw [c_1_8]; decide) (by rw [c_1_8]; rfl) (by decide) ?_
                    exact k_cProcessor_worked_b76 g C st x2 x3 H locs ls hI (lv_sub hl [0, 2, 3] rfl) X hF
                  · have hF := hF.trans (if_neg c_1_8)
                    by_cases c_1_9 : x1 = (9 : Int32)
                    · have hF := hF.trans (if_pos c_1_9)
                      refine lv_tableIn (off := 79) (tgt := 80) hx hb dX5_worked_1 (by rw [c_1_9]; decide) (by rw [c_1_9]; decide) (by rw [c_1_9]; rfl) (by decide) ?_
                      exact k_cProcessor_worked_b80 g C st x2 x3 H locs ls hI (lv_sub hl [0, 2, 3] rfl) X hF
                    · have hF := hF.trans (if_neg c_1_9)
                      by_cases c_1_10 : x1 = (10 : Int32)
                      · have hF := hF.trans (if_pos c_1_10)
                        refine lv_tableIn (off := 83) (tgt := 84) hx hb dX5_worked_1 (by rw [c_1_10]; decide) (by rw [c_1_10]; decide) (by rw [c_1_10]; rfl) (by decide) ?_
                        exact k_cProcessor_worked_b84 g C st x2 x3 H locs ls hI (lv_sub hl [0, 2, 3] rfl) X hF
                      · have hF := hF.trans (if_neg c_1_10)
                        by_cases c_1_11 : x1 = (11 : Int32)
                        · have hF := hF.trans (if_pos c_1_11)
                          refine lv_tableIn (off := 103) (tgt := 104) hx hb dX5_worked_1 (by rw [c_1_11]; decide) (by rw [c_1_11]; decide) (by rw [c_1_11]; rfl) (by decide) ?_
                          exact k_cProcessor_worked_b104 g C st x2 x3 H locs ls hI (lv_sub hl [0, 2, 3] rfl) X hF
                        · have hF := hF.trans (if_neg c_1_11)
                          by_cases c_1_12 : x1 = (12 : Int32)
                          · have hF := hF.trans (if_pos c_1_12)
                            refine lv_tableIn (off := 157) (tgt := 158) hx hb dX5_worked_1 (by rw [c_1_12]; decide) (by rw [c_1_12]; decide) (by rw [c_1_12]; rfl) (by decide) ?_
                            refine lv_iload_n hx hb dX5_worked_158 rfl (lv_at hl 2 rfl) ?_
                            refine lv_iload_n hx hb dX5_worked_159 rfl (lv_at hl 3 rfl) ?_
                            refine lv_ior hx hb dX5_worked_160 ?_
                            exact cx_iret C hI (congrArg Prod.fst hF) (congrArg Prod.snd hF) dX5_worked_161
                          · have hF := hF.trans (if_neg c_1_12)
                            by_cases c_1_13 : x1 = (13 : Int32)
                            · have hF := hF.trans (if_pos c_1_13)
                              refine lv_tableIn (off := 161) (tgt := 162) hx hb dX5_worked_1 (by rw [c_1_13]; decide) (by rw [c_1_13]; decide) (by rw [c_1_13]; rfl) (by decide) ?_
                              refine lv_iload_n hx hb dX5_worked_162 rfl (lv_at hl 3 rfl) ?_
                              exact cx_iret C hI (congrArg Prod.fst hF) (congrArg Prod.snd hF) dX5_worked_163
                            · have hF := hF.trans (if_neg c_1_13)
                              by_cases c_1_14 : x1 = (14 : Int32)
                              · have hF := hF.trans (if_pos c_1_14)
                                refine lv_tableIn (off := 163) (tgt := 164) hx hb dX5_worked_1 (by rw [c_1_14]; decide) (by rw [c_1_14]; decide) (by rw [c_1_14]; rfl) (by decide) ?_
                                refine lv_iload_n hx hb dX5_worked_164 rfl (lv_at hl 2 rfl) ?_
                                refine lv_iload_n hx hb dX5_worked_165 rfl (lv_at hl 3 rfl) ?_
                                refine lv_iconst (v := (-1 : Int32)) hx hb dX5_worked_166 (by decide) ?_
                                refine lv_ixor hx hb dX5_worked_167 ?_
                                refine lv_iand hx hb dX5_worked_168 ?_
                                exact cx_iret C hI (congrArg Prod.fst hF) (congrArg Prod.snd hF) dX5_worked_169
                              · have hF := hF.trans (if_neg c_1_14)
                                refine lv_tableOut (tgt := 170) hx hb dX5_worked_1 (by have h0 := lv_neT (a := 0) c_1_0 (by decide); have h1 := lv_neT (a := 1) c_1_1 (by decide); have h2 := lv_neT (a := 2) c_1_2 (by decide); have h3 := lv_neT (a := 3) c_1_3 (by decide); have h4 := lv_neT (a := 4) c_1_4 (by decide); have h5 := lv_neT (a := 5) c_1_5 (by decide); have h6 := lv_neT (a := 6) c_1_6 (by decide); have h7 := lv_neT (a := 7) c_1_7 (by decide); have h8 := lv_neT (a := 8) c_1_8 (by decide); have h9 := lv_neT (a := 9) c_1_9 (by decide); have h10 := lv_neT (a := 10) c_1_10 (by decide); have h11 := lv_neT (a := 11) c_1_11 (by decide); have h12 := lv_neT (a := 12) c_1_12 (by decide); have h13 := lv_neT (a := 13) c_1_13 (by decide); have h14 := lv_neT (a := 14) c_1_14 (by decide); omega) (by decide) ?_
                                refine lv_iload_n hx hb dX5_worked_170 rfl (lv_at hl 3 rfl) ?_
                                refine lv_iconst (v := (-1 : Int32)) hx hb dX5_worked_171 (by decide) ?_
                                refine lv_ixor hx hb dX5_worked_172 ?_
                                exact cx_iret C hI (congrArg Prod.fst hF) (congrArg Prod.snd hF) dX5_worked_173
set_option maxHeartbeats 4000000 in
set_option maxRecDepth 100000 in
theorem c_cProcessor_worked (l : Launch) (g : Gm) (st : CS) (x1 : Int32) (x2 : Int32) (x3 : Int32) : Mi l yX5_worked wq_X5_worked rm_cProcessor_worked (gD g) vwCl (cty g) (cw g) (cz g) [.ref (gad g 19), .int x1, .int x2, .int x3] st (cProcessor_worked st x1 x2 x3).1 (cProcessor_worked st x1 x2 x3).2 := by
  intro sz
  refine Met.ofW (cc := cX5_worked) (maxL := 4) (ret := (some .int)) (by decide) rfl ?_
  intro p e s m args below meth c s₁ B hml hv
  obtain ⟨rfl, hsz, hP, hK, hD0, hZ⟩ := hv
  subst hsz
  have hl := lv_entry ([.ref (gad g 19), .int x1, .int x2, .int x3]) (n := 4) (Nat.le_of_ble_eq_true rfl)
  rw [lg_entry_eq]
  generalize (lg_sl ([.ref (gad g 19), .int x1, .int x2, .int x3]) ++ List.replicate (4 - (lg_sl ([.ref (gad g 19), .int x1, .int x2, .int x3])).length) Slot.unset).toArray = ls at hl ⊢
  exact k_cProcessor_worked g ⟨B.exec, B.bytes, B.returns, hml, findClass_of_methodNamed B.named, atoms_spec (ws := wq_X5_worked) B.pre, B.notSynchronized, hK, fun q h => Or.inr h, hZ, cz_ok g⟩ st x1 x2 x3 _ _ ls ⟨hP, hD0.self, va_S.rf⟩ hl _ rfl
abbrev wq_X5_become : List Cond := .code yX5_become cX5_become 3 none :: wAll
theorem yd_yX5_become : yX5_become.cls = RX5 ∧ yX5_become.cls ≠ "java/lang/invoke/MethodHandle" ∧ yX5_become.cls ≠ "java/lang/invoke/VarHandle" ∧ (parseMethodDescriptor yX5_become.desc).map (fun d => d.parameters.length) = some 2 := by decide +kernel
abbrev rm_cProcessor_become : Room := { frames := 2, cells := 0, slots := 0, locals := 44 }
def cProcessor_become (st : CS) (x1 : Int32) (x2 : Int32) : CS := (cRegisters_become st (cRegisters_mode st) x1 x2)
set_option maxHeartbeats 4000000 in
set_option maxRecDepth 100000 in
theorem k_cProcessor_become {p : Program} {l : Launch} {e : Env} {s : State} {m : MethodId} {args : Array Value} {below : List Frame} {meth : Method} {c : Code} {A : Nat → Prop} (g : Gm) (C : cX p s m args meth c A cX5_become none 3 RX5 wq_X5_become (gD g) vwCl (cty g) (cz g)) (st : CS) (x1 : Int32) (x2 : Int32) (H : Heap) (locs : List Loc) (ls : Array Slot) (hI : cI (gD g) vwCl (cw g) A s st H locs) (hl : lv_has ls 3 [(0, .ref (gad g 19)), (1, .int x1), (2, .int x2)]) (X : CS) (hF : X = cProcessor_become st x1 x2) : W p l e rm_cProcessor_become s m args below meth c H locs 0 0 (MQ below (cQv (gD g) vwCl (cty g) (cw g) A X) args s 0 0 A) (F0 m 0 ls []) := by
  obtain ⟨hx, hb, hr, hml, hown, hts, hlocks, hK, hA, hZ, hzo⟩ := id C
  unfold cProcessor_become at hF
  refine lv_aload_n hx hb dX5_become_0 rfl (lv_at hl 0 rfl) ?_
  refine va_get (D := gD g) (ci := 5) (C := RX5) (T := TX5) (N := 10) (v := .ref (gad g 2)) hx hb hts (fun w h => List.mem_cons_of_mem _ (isX50 w h)) hown hK hI.1 19 rfl rfl 0 (by decide) (hts _ (List.mem_cons_of_mem _ mw112)) (fun _ h9 => h9) rfl dX5_become_1 ?_
  refine lv_aload_n hx hb dX5_become_4 rfl (lv_at hl 0 rfl) ?_
  refine va_get (D := gD g) (ci := 5) (C := RX5) (T := TX5) (N := 10) (v := .ref (gad g 2)) hx hb hts (fun w h => List.mem_cons_of_mem _ (isX50 w h)) hown hK hI.1 19 rfl rfl 0 (by decide) (hts _ (List.mem_cons_of_mem _ mw112)) (fun _ h9 => h9) rfl dX5_become_5 ?_
  refine cx_Vi (As := []) (rest := [.ref (gad g 2)]) C (c_cRegisters_mode l g st ) (cwV 0 hts (gd_V _ mw329 mw330 mw331 mw14 mw332) rfl rfl rfl yd_yX6_mode ⟨Nat.le_of_ble_eq_true rfl, Nat.le_of_ble_eq_true rfl⟩) (va_recv hK hI.1 (ci := 6) (q0 := 2) rfl rfl) hI rfl hl.1 rfl (Nat.le_of_ble_eq_true rfl) dX5_become_8 (fun H locs hI => ?_)
  refine lv_iload_n hx hb dX5_become_11 rfl (lv_at hl 1 rfl) ?_
  refine lv_iload_n hx hb dX5_become_12 rfl (lv_at hl 2 rfl) ?_
  refine cx_Vv (As := [.int (cRegisters_mode st), .int x1, .int x2]) (rest := []) C (c_cRegisters_become l g st (cRegisters_mode st) x1 x2) (cwV 3 hts (gd_V _ mw416 mw417 mw418 mw14 mw419) rfl rfl rfl yd_yX6_become ⟨Nat.le_of_ble_eq_true rfl, Nat.le_of_ble_eq_true rfl⟩) (va_recv hK hI.1 (ci := 6) (q0 := 2) rfl rfl) hI rfl hl.1 rfl (Nat.le_of_ble_eq_true rfl) dX5_become_13 (fun H locs hI => ?_)
  exact cx_vret C hI hF dX5_become_16
set_option maxHeartbeats 4000000 in
set_option maxRecDepth 100000 in
theorem c_cProcessor_become (l : Launch) (g : Gm) (st : CS) (x1 : Int32) (x2 : Int32) : Mv l yX5_become wq_X5_become rm_cProcessor_become (gD g) vwCl (cty g) (cw g) (cz g) [.ref (gad g 19), .int x1, .int x2] st (cProcessor_become st x1 x2) := by
  intro sz
  refine Met.ofW (cc := cX5_become) (maxL := 3) (ret := none) (by decide) rfl ?_
  intro p e s m args below meth c s₁ B hml hv
  obtain ⟨rfl, hsz, hP, hK, hD0, hZ⟩ := hv
  subst hsz
  have hl := lv_entry ([.ref (gad g 19), .int x1, .int x2]) (n := 3) (Nat.le_of_ble_eq_true rfl)
  rw [lg_entry_eq]
  generalize (lg_sl ([.ref (gad g 19), .int x1, .int x2]) ++ List.replicate (3 - (lg_sl ([.ref (gad g 19), .int x1, .int x2])).length) Slot.unset).toArray = ls at hl ⊢
  exact k_cProcessor_become g ⟨B.exec, B.bytes, B.returns, hml, findClass_of_methodNamed B.named, atoms_spec (ws := wq_X5_become) B.pre, B.notSynchronized, hK, fun q h => Or.inr h, hZ, cz_ok g⟩ st x1 x2 _ _ ls ⟨hP, hD0.self, va_S.rf⟩ hl _ rfl
abbrev wq_X5_becomeOrGoTo : List Cond := .code yX5_becomeOrGoTo cX5_becomeOrGoTo 3 none :: wAll
theorem yd_yX5_becomeOrGoTo : yX5_becomeOrGoTo.cls = RX5 ∧ yX5_becomeOrGoTo.cls ≠ "java/lang/invoke/MethodHandle" ∧ yX5_becomeOrGoTo.cls ≠ "java/lang/invoke/VarHandle" ∧ (parseMethodDescriptor yX5_becomeOrGoTo.desc).map (fun d => d.parameters.length) = some 2 := by decide +kernel
abbrev rm_cProcessor_becomeOrGoTo : Room := { frames := 3, cells := 0, slots := 0, locals := 66 }
def cProcessor_becomeOrGoTo_b14 (st : CS) : CS := st
set_option maxHeartbeats 4000000 in
set_option maxRecDepth 100000 in
theorem k_cProcessor_becomeOrGoTo_b14 {p : Program} {l : Launch} {e : Env} {s : State} {m : MethodId} {args : Array Value} {below : List Frame} {meth : Method} {c : Code} {A : Nat → Prop} (g : Gm) (C : cX p s m args meth c A cX5_becomeOrGoTo none 3 RX5 wq_X5_becomeOrGoTo (gD g) vwCl (cty g) (cz g)) (st : CS) (H : Heap) (locs : List Loc) (ls : Array Slot) (hI : cI (gD g) vwCl (cw g) A s st H locs) (hl : lv_has ls 3 [(0, .ref (gad g 19))]) (X : CS) (hF : X = cProcessor_becomeOrGoTo_b14 st ) : W p l e rm_cProcessor_becomeOrGoTo s m args below meth c H locs 0 0 (MQ below (cQv (gD g) vwCl (cty g) (cw g) A X) args s 0 0 A) (F0 m 14 ls []) := by
  obtain ⟨hx, hb, hr, hml, hown, hts, hlocks, hK, hA, hZ, hzo⟩ := id C
  unfold cProcessor_becomeOrGoTo_b14 at hF
  refine lv_goto (tgt := 23) hx hb dX5_becomeOrGoTo_14 (by decide) ?_
  exact cx_vret C hI hF dX5_becomeOrGoTo_23
def cProcessor_becomeOrGoTo (st : CS) (x1 : Int32) (x2 : Int32) : CS := (if (x1 = (15 : Int32)) then (cProcessor_becomeOrGoTo_b14 (cRegisters_goTo st x2) ) else (cProcessor_become st x1 x2))
set_option maxHeartbeats 4000000 in
set_option maxRecDepth 100000 in
theorem k_cProcessor_becomeOrGoTo {p : Program} {l : Launch} {e : Env} {s : State} {m : MethodId} {args : Array Value} {below : List Frame} {meth : Method} {c : Code} {A : Nat → Prop} (g : Gm) (C : cX p s m args meth c A cX5_becomeOrGoTo none 3 RX5 wq_X5_becomeOrGoTo (gD g) vwCl (cty g) (cz g)) (st : CS) (x1 : Int32) (x2 : Int32) (H : Heap) (locs : List Loc) (ls : Array Slot) (hI : cI (gD g) vwCl (cw g) A s st H locs) (hl : lv_has ls 3 [(0, .ref (gad g 19)), (1, .int x1), (2, .int x2)]) (X : CS) (hF : X = cProcessor_becomeOrGoTo st x1 x2) : W p l e rm_cProcessor_becomeOrGoTo s m args below meth c H locs 0 0 (MQ below (cQv (gD g) vwCl (cty g) (cw g) A X) args s 0 0 A) (F0 m 0 ls []) := by
  obtain ⟨hx, hb, hr, hml, hown, hts, hlocks, hK, hA, hZ, hzo⟩ := id C
  unfold cProcessor_becomeOrGoTo at hF
  refine lv_iload_n hx hb dX5_becomeOrGoTo_0 rfl (lv_at hl 1 rfl) ?_
  refine lv_bipush (v := (15 : Int32)) hx hb dX5_becomeOrGoTo_1 (by decide) ?_
  refine lv_icmp_ne (tgt := 17) hx hb dX5_becomeOrGoTo_3 (by decide) (fun c_3 => ?_) (fun c_3 => ?_)
  · have hF := hF.trans (if_neg c_3)
    refine lv_aload_n hx hb dX5_becomeOrGoTo_17 rfl (lv_at hl 0 rfl) ?_
    refine lv_iload_n hx hb dX5_becomeOrGoTo_18 rfl (lv_at hl 1 rfl) ?_
    refine lv_iload_n hx hb dX5_becomeOrGoTo_19 rfl (lv_at hl 2 rfl) ?_
    refine cx_Vv (As := [.int x1, .int x2]) (rest := []) C (c_cProcessor_become l g st x1 x2) (cwV 2 hts (gd_V _ mw477 mw478 mw479 mw46 mw480) rfl rfl rfl yd_yX5_become ⟨Nat.le_of_ble_eq_true rfl, Nat.le_of_ble_eq_true rfl⟩) (va_recv hK hI.1 (ci := 5) (q0 := 19) rfl rfl) hI rfl hl.1 rfl (Nat.le_of_ble_eq_true rfl) dX5_becomeOrGoTo_20 (fun H locs hI => ?_)
    exact cx_vret C hI hF dX5_becomeOrGoTo_23
  · have hF := hF.trans (if_pos c_3)
    refine lv_aload_n hx hb dX5_becomeOrGoTo_6 rfl (lv_at hl 0 rfl) ?_
    refine va_get (D := gD g) (ci := 5) (C := RX5) (T := TX5) (N := 10) (v := .ref (gad g 2)) hx hb hts (fun w h => List.mem_cons_of_mem _ (isX50 w h)) hown hK hI.1 19 rfl rfl 0 (by decide) (hts _ (List.mem_cons_of_mem _ mw112)) (fun _ h9 => h9) rfl dX5_becomeOrGoTo_7 ?_
    refine lv_iload_n hx hb dX5_becomeOrGoTo_10 rfl (lv_at hl 2 rfl) ?_
    refine cx_Vv (As := [.int x2]) (rest := []) C (c_cRegisters_goTo l g st x2) (cwV 1 hts (gd_V _ mw361 mw362 mw363 mw14 mw364) rfl rfl rfl yd_yX6_goTo ⟨Nat.le_of_ble_eq_true rfl, Nat.le_of_ble_eq_true rfl⟩) (va_recv hK hI.1 (ci := 6) (q0 := 2) rfl rfl) hI rfl hl.1 rfl (Nat.le_of_ble_eq_true rfl) dX5_becomeOrGoTo_11 (fun H locs hI => ?_)
    exact k_cProcessor_becomeOrGoTo_b14 g C (cRegisters_goTo st x2)  H locs ls hI (lv_sub hl [0] rfl) X hF
set_option maxHeartbeats 4000000 in
set_option maxRecDepth 100000 in
theorem c_cProcessor_becomeOrGoTo (l : Launch) (g : Gm) (st : CS) (x1 : Int32) (x2 : Int32) : Mv l yX5_becomeOrGoTo wq_X5_becomeOrGoTo rm_cProcessor_becomeOrGoTo (gD g) vwCl (cty g) (cw g) (cz g) [.ref (gad g 19), .int x1, .int x2] st (cProcessor_becomeOrGoTo st x1 x2) := by
  intro sz
  refine Met.ofW (cc := cX5_becomeOrGoTo) (maxL := 3) (ret := none) (by decide) rfl ?_
  intro p e s m args below meth c s₁ B hml hv
  obtain ⟨rfl, hsz, hP, hK, hD0, hZ⟩ := hv
  subst hsz
  have hl := lv_entry ([.ref (gad g 19), .int x1, .int x2]) (n := 3) (Nat.le_of_ble_eq_true rfl)
  rw [lg_entry_eq]
  generalize (lg_sl ([.ref (gad g 19), .int x1, .int x2]) ++ List.replicate (3 - (lg_sl ([.ref (gad g 19), .int x1, .int x2])).length) Slot.unset).toArray = ls at hl ⊢
  exact k_cProcessor_becomeOrGoTo g ⟨B.exec, B.bytes, B.returns, hml, findClass_of_methodNamed B.named, atoms_spec (ws := wq_X5_becomeOrGoTo) B.pre, B.notSynchronized, hK, fun q h => Or.inr h, hZ, cz_ok g⟩ st x1 x2 _ _ ls ⟨hP, hD0.self, va_S.rf⟩ hl _ rfl
abbrev wq_X5_setSignsOfWork : List Cond := .code yX5_setSignsOfWork cX5_setSignsOfWork 3 none :: wAll
theorem yd_yX5_setSignsOfWork : yX5_setSignsOfWork.cls = RX5 ∧ yX5_setSignsOfWork.cls ≠ "java/lang/invoke/MethodHandle" ∧ yX5_setSignsOfWork.cls ≠ "java/lang/invoke/VarHandle" ∧ (parseMethodDescriptor yX5_setSignsOfWork.desc).map (fun d => d.parameters.length) = some 2 := by decide +kernel
abbrev rm_cProcessor_setSignsOfWork : Room := { frames := 2, cells := 0, slots := 0, locals := 44 }
def cProcessor_setSignsOfWork_b25 (st : CS) : CS := (cRegisters_setCarryAndOverflow st (gI st 33) (gI st 34))
set_option maxHeartbeats 4000000 in
set_option maxRecDepth 100000 in
theorem k_cProcessor_setSignsOfWork_b25 {p : Program} {l : Launch} {e : Env} {s : State} {m : MethodId} {args : Array Value} {below : List Frame} {meth : Method} {c : Code} {A : Nat → Prop} (g : Gm) (C : cX p s m args meth c A cX5_setSignsOfWork none 3 RX5 wq_X5_setSignsOfWork (gD g) vwCl (cty g) (cz g)) (st : CS) (H : Heap) (locs : List Loc) (ls : Array Slot) (hI : cI (gD g) vwCl (cw g) A s st H locs) (hl : lv_has ls 3 [(0, .ref (gad g 19))]) (X : CS) (hF : X = cProcessor_setSignsOfWork_b25 st ) : W p l e rm_cProcessor_setSignsOfWork s m args below meth c H locs 0 0 (MQ below (cQv (gD g) vwCl (cty g) (cw g) A X) args s 0 0 A) (F0 m 25 ls []) := by
  obtain ⟨hx, hb, hr, hml, hown, hts, hlocks, hK, hA, hZ, hzo⟩ := id C
  unfold cProcessor_setSignsOfWork_b25 at hF
  refine lv_aload_n hx hb dX5_setSignsOfWork_25 rfl (lv_at hl 0 rfl) ?_
  refine va_get (D := gD g) (ci := 5) (C := RX5) (T := TX5) (N := 10) (v := .ref (gad g 2)) hx hb hts (fun w h => List.mem_cons_of_mem _ (isX50 w h)) hown hK hI.1 19 rfl rfl 0 (by decide) (hts _ (List.mem_cons_of_mem _ mw112)) (fun _ h9 => h9) rfl dX5_setSignsOfWork_26 ?_
  refine lv_aload_n hx hb dX5_setSignsOfWork_29 rfl (lv_at hl 0 rfl) ?_
  refine va_get (D := gD g) (ci := 5) (C := RX5) (T := TX5) (N := 10) (v := .int (gI st 33)) hx hb hts (fun w h => List.mem_cons_of_mem _ (isX50 w h)) hown hK hI.1 19 rfl rfl 7 (by decide) (hts _ (List.mem_cons_of_mem _ mw432)) (fun _ h9 => h9) rfl dX5_setSignsOfWork_30 ?_
  refine lv_aload_n hx hb dX5_setSignsOfWork_33 rfl (lv_at hl 0 rfl) ?_
  refine va_get (D := gD g) (ci := 5) (C := RX5) (T := TX5) (N := 10) (v := .int (gI st 34)) hx hb hts (fun w h => List.mem_cons_of_mem _ (isX50 w h)) hown hK hI.1 19 rfl rfl 8 (by decide) (hts _ (List.mem_cons_of_mem _ mw392)) (fun _ h9 => h9) rfl dX5_setSignsOfWork_34 ?_
  refine cx_Vv (As := [.int (gI st 33), .int (gI st 34)]) (rest := []) C (c_cRegisters_setCarryAndOverflow l g st (gI st 33) (gI st 34)) (cwV 2 hts (gd_V _ mw502 mw503 mw504 mw14 mw505) rfl rfl rfl yd_yX6_setCarryAndOverflow ⟨Nat.le_of_ble_eq_true rfl, Nat.le_of_ble_eq_true rfl⟩) (va_recv hK hI.1 (ci := 6) (q0 := 2) rfl rfl) hI rfl hl.1 rfl (Nat.le_of_ble_eq_true rfl) dX5_setSignsOfWork_37 (fun H locs hI => ?_)
  exact cx_vret C hI hF dX5_setSignsOfWork_40
def cProcessor_setSignsOfWork_b14 (st : CS) : CS := st
set_option maxHeartbeats 4000000 in
set_option maxRecDepth 100000 in
theorem k_cProcessor_setSignsOfWork_b14 {p : Program} {l : Launch} {e : Env} {s : State} {m : MethodId} {args : Array Value} {below : List Frame} {meth : Method} {c : Code} {A : Nat → Prop} (g : Gm) (C : cX p s m args meth c A cX5_setSignsOfWork none 3 RX5 wq_X5_setSignsOfWork (gD g) vwCl (cty g) (cz g)) (st : CS) (H : Heap) (locs : List Loc) (ls : Array Slot) (hI : cI (gD g) vwCl (cw g) A s st H locs) (hl : lv_has ls 3 [(0, .ref (gad g 19))]) (X : CS) (hF : X = cProcessor_setSignsOfWork_b14 st ) : W p l e rm_cProcessor_setSignsOfWork s m args below meth c H locs 0 0 (MQ below (cQv (gD g) vwCl (cty g) (cw g) A X) args s 0 0 A) (F0 m 14 ls []) := by
  obtain ⟨hx, hb, hr, hml, hown, hts, hlocks, hK, hA, hZ, hzo⟩ := id C
  unfold cProcessor_setSignsOfWork_b14 at hF
  refine lv_goto (tgt := 40) hx hb dX5_setSignsOfWork_14 (by decide) ?_
  exact cx_vret C hI hF dX5_setSignsOfWork_40
def cProcessor_setSignsOfWork (st : CS) (x1 : Int32) (x2 : Int32) : CS := (if (x1 = (15 : Int32)) then (cProcessor_setSignsOfWork_b14 (cRegisters_setSigns st x2) ) else (cProcessor_setSignsOfWork_b25 (cRegisters_setResultSigns st x2) ))
set_option maxHeartbeats 4000000 in
set_option maxRecDepth 100000 in
theorem k_cProcessor_setSignsOfWork {p : Program} {l : Launch} {e : Env} {s : State} {m : MethodId} {args : Array Value} {below : List Frame} {meth : Method} {c : Code} {A : Nat → Prop} (g : Gm) (C : cX p s m args meth c A cX5_setSignsOfWork none 3 RX5 wq_X5_setSignsOfWork (gD g) vwCl (cty g) (cz g)) (st : CS) (x1 : Int32) (x2 : Int32) (H : Heap) (locs : List Loc) (ls : Array Slot) (hI : cI (gD g) vwCl (cw g) A s st H locs) (hl : lv_has ls 3 [(0, .ref (gad g 19)), (1, .int x1), (2, .int x2)]) (X : CS) (hF : X = cProcessor_setSignsOfWork st x1 x2) : W p l e rm_cProcessor_setSignsOfWork s m args below meth c H locs 0 0 (MQ below (cQv (gD g) vwCl (cty g) (cw g) A X) args s 0 0 A) (F0 m 0 ls []) := by
  obtain ⟨hx, hb, hr, hml, hown, hts, hlocks, hK, hA, hZ, hzo⟩ := id C
  unfold cProcessor_setSignsOfWork at hF
  refine lv_iload_n hx hb dX5_setSignsOfWork_0 rfl (lv_at hl 1 rfl) ?_
  refine lv_bipush (v := (15 : Int32)) hx hb dX5_setSignsOfWork_1 (by decide) ?_
  refine lv_icmp_ne (tgt := 17) hx hb dX5_setSignsOfWork_3 (by decide) (fun c_3 => ?_) (fun c_3 => ?_)
  · have hF := hF.trans (if_neg c_3)
    refine lv_aload_n hx hb dX5_setSignsOfWork_17 rfl (lv_at hl 0 rfl) ?_
    refine va_get (D := gD g) (ci := 5) (C := RX5) (T := TX5) (N := 10) (v := .ref (gad g 2)) hx hb hts (fun w h => List.mem_cons_of_mem _ (isX50 w h)) hown hK hI.1 19 rfl rfl 0 (by decide) (hts _ (List.mem_cons_of_mem _ mw112)) (fun _ h9 => h9) rfl dX5_setSignsOfWork_18 ?_
    refine lv_iload_n hx hb dX5_setSignsOfWork_21 rfl (lv_at hl 2 rfl) ?_
    refine cx_Vv (As := [.int x2]) (rest := []) C (c_cRegisters_setResultSigns l g st x2) (cwV 1 hts (gd_V _ mw495 mw496 mw497 mw14 mw498) rfl rfl rfl yd_yX6_setResultSigns ⟨Nat.le_of_ble_eq_true rfl, Nat.le_of_ble_eq_true rfl⟩) (va_recv hK hI.1 (ci := 6) (q0 := 2) rfl rfl) hI rfl hl.1 rfl (Nat.le_of_ble_eq_true rfl) dX5_setSignsOfWork_22 (fun H locs hI => ?_)
    exact k_cProcessor_setSignsOfWork_b25 g C (cRegisters_setResultSigns st x2)  H locs ls hI (lv_sub hl [0] rfl) X hF
  · have hF := hF.trans (if_pos c_3)
    refine lv_aload_n hx hb dX5_setSignsOfWork_6 rfl (lv_at hl 0 rfl) ?_
    refine va_get (D := gD g) (ci := 5) (C := RX5) (T := TX5) (N := 10) (v := .ref (gad g 2)) hx hb hts (fun w h => List.mem_cons_of_mem _ (isX50 w h)) hown hK hI.1 19 rfl rfl 0 (by decide) (hts _ (List.mem_cons_of_mem _ mw112)) (fun _ h9 => h9) rfl dX5_setSignsOfWork_7 ?_
    refine lv_iload_n hx hb dX5_setSignsOfWork_10 rfl (lv_at hl 2 rfl) ?_
    refine cx_Vv (As := [.int x2]) (rest := []) C (c_cRegisters_setSigns l g st x2) (cwV 1 hts (gd_V _ mw485 mw486 mw487 mw14 mw488) rfl rfl rfl yd_yX6_setSigns ⟨Nat.le_of_ble_eq_true rfl, Nat.le_of_ble_eq_true rfl⟩) (va_recv hK hI.1 (ci := 6) (q0 := 2) rfl rfl) hI rfl hl.1 rfl (Nat.le_of_ble_eq_true rfl) dX5_setSignsOfWork_11 (fun H locs hI => ?_)
    exact k_cProcessor_setSignsOfWork_b14 g C (cRegisters_setSigns st x2)  H locs ls hI (lv_sub hl [0] rfl) X hF
set_option maxHeartbeats 4000000 in
set_option maxRecDepth 100000 in
theorem c_cProcessor_setSignsOfWork (l : Launch) (g : Gm) (st : CS) (x1 : Int32) (x2 : Int32) : Mv l yX5_setSignsOfWork wq_X5_setSignsOfWork rm_cProcessor_setSignsOfWork (gD g) vwCl (cty g) (cw g) (cz g) [.ref (gad g 19), .int x1, .int x2] st (cProcessor_setSignsOfWork st x1 x2) := by
  intro sz
  refine Met.ofW (cc := cX5_setSignsOfWork) (maxL := 3) (ret := none) (by decide) rfl ?_
  intro p e s m args below meth c s₁ B hml hv
  obtain ⟨rfl, hsz, hP, hK, hD0, hZ⟩ := hv
  subst hsz
  have hl := lv_entry ([.ref (gad g 19), .int x1, .int x2]) (n := 3) (Nat.le_of_ble_eq_true rfl)
  rw [lg_entry_eq]
  generalize (lg_sl ([.ref (gad g 19), .int x1, .int x2]) ++ List.replicate (3 - (lg_sl ([.ref (gad g 19), .int x1, .int x2])).length) Slot.unset).toArray = ls at hl ⊢
  exact k_cProcessor_setSignsOfWork g ⟨B.exec, B.bytes, B.returns, hml, findClass_of_methodNamed B.named, atoms_spec (ws := wq_X5_setSignsOfWork) B.pre, B.notSynchronized, hK, fun q h => Or.inr h, hZ, cz_ok g⟩ st x1 x2 _ _ ls ⟨hP, hD0.self, va_S.rf⟩ hl _ rfl
abbrev wq_X5_work : List Cond := .code yX5_work cX5_work 11 (some .int) :: wAll
theorem yd_yX5_work : yX5_work.cls = RX5 ∧ yX5_work.cls ≠ "java/lang/invoke/MethodHandle" ∧ yX5_work.cls ≠ "java/lang/invoke/VarHandle" ∧ (parseMethodDescriptor yX5_work.desc).map (fun d => d.parameters.length) = some 0 := by decide +kernel
abbrev rm_cProcessor_work : Room := { frames := 4, cells := 0, slots := 0, locals := 94 }
def cProcessor_work_b234 (st : CS) (x3 : Int32) (y0 : Int32) : CS × Int32 := (if (x3 = 0) then (st, ((1 : Int32) + y0)) else (st, ((2 : Int32) + y0)))
set_option maxHeartbeats 4000000 in
set_option maxRecDepth 100000 in
theorem k_cProcessor_work_b234 {p : Program} {l : Launch} {e : Env} {s : State} {m : MethodId} {args : Array Value} {below : List Frame} {meth : Method} {c : Code} {A : Nat → Prop} (g : Gm) (C : cX p s m args meth c A cX5_work (some .int) 11 RX5 wq_X5_work (gD g) vwCl (cty g) (cz g)) (st : CS) (x3 : Int32) (y0 : Int32) (H : Heap) (locs : List Loc) (ls : Array Slot) (hI : cI (gD g) vwCl (cw g) A s st H locs) (hl : lv_has ls 11 [(0, .ref (gad g 19)), (3, .int x3)]) (X : CS × Int32) (hF : X = cProcessor_work_b234 st x3 y0) : W p l e rm_cProcessor_work s m args below meth c H locs 0 0 (MQ below (cQi (gD g) vwCl (cty g) (cw g) A X.1 X.2) args s 0 0 A) (F0 m 234 ls [.int y0]) := by
  obtain ⟨hx, hb, hr, hml, hown, hts, hlocks, hK, hA, hZ, hzo⟩ := id C
  unfold cProcessor_work_b234 at hF
  refine lv_istore (lv' := [(10, .int y0), (0, .ref (gad g 19)), (3, .int x3)]) hx hb dX5_work_234 hl (by decide) rfl (fun ls hl => ?_)
  refine lv_iload_n hx hb dX5_work_236 rfl (lv_at hl 2 rfl) ?_
  refine lv_if_eq (tgt := 244) hx hb dX5_work_237 (by decide) (fun c_237 => ?_) (fun c_237 => ?_)
  · have hF := hF.trans (if_pos c_237)
    refine lv_iconst (v := (1 : Int32)) hx hb dX5_work_244 (by decide) ?_
    refine lv_iload hx hb dX5_work_245 (lv_at hl 0 rfl) ?_
    refine lv_iadd hx hb dX5_work_247 ?_
    exact cx_iret C hI (congrArg Prod.fst hF) (congrArg Prod.snd hF) dX5_work_248
  · have hF := hF.trans (if_neg c_237)
    refine lv_iconst (v := (2 : Int32)) hx hb dX5_work_240 (by decide) ?_
    refine lv_goto (tgt := 245) hx hb dX5_work_241 (by decide) ?_
    refine lv_iload hx hb dX5_work_245 (lv_at hl 0 rfl) ?_
    refine lv_iadd hx hb dX5_work_247 ?_
    exact cx_iret C hI (congrArg Prod.fst hF) (congrArg Prod.snd hF) dX5_work_248
def cProcessor_work_b229 (st : CS) (x3 : Int32) : CS × Int32 := (cProcessor_work_b234 st x3 (3 : Int32))
set_option maxHeartbeats 4000000 in
set_option maxRecDepth 100000 in
theorem k_cProcessor_work_b229 {p : Program} {l : Launch} {e : Env} {s : State} {m : MethodId} {args : Array Value} {below : List Frame} {meth : Method} {c : Code} {A : Nat → Prop} (g : Gm) (C : cX p s m args meth c A cX5_work (some .int) 11 RX5 wq_X5_work (gD g) vwCl (cty g) (cz g)) (st : CS) (x3 : Int32) (H : Heap) (locs : List Loc) (ls : Array Slot) (hI : cI (gD g) vwCl (cw g) A s st H locs) (hl : lv_has ls 11 [(0, .ref (gad g 19)), (3, .int x3)]) (X : CS × Int32) (hF : X = cProcessor_work_b229 st x3) : W p l e rm_cProcessor_work s m args below meth c H locs 0 0 (MQ below (cQi (gD g) vwCl (cty g) (cw g) A X.1 X.2) args s 0 0 A) (F0 m 229 ls []) := by
  obtain ⟨hx, hb, hr, hml, hown, hts, hlocks, hK, hA, hZ, hzo⟩ := id C
  unfold cProcessor_work_b229 at hF
  refine lv_iconst (v := (3 : Int32)) hx hb dX5_work_229 (by decide) ?_
  refine lv_goto (tgt := 234) hx hb dX5_work_230 (by decide) ?_
  exact k_cProcessor_work_b234 g C st x3 (3 : Int32) H locs ls hI (lv_sub hl [0, 1] rfl) X hF
def cProcessor_work_b210 (st : CS) (x3 : Int32) (x7 : Int32) (y0 : Int32) : CS × Int32 := (if (y0 = 0) then (if ((cRegisters_mode st) = x7) then (cProcessor_work_b234 st x3 (0 : Int32)) else (cProcessor_work_b229 st x3)) else (cProcessor_work_b229 st x3))
set_option maxHeartbeats 4000000 in
set_option maxRecDepth 100000 in
theorem k_cProcessor_work_b210 {p : Program} {l : Launch} {e : Env} {s : State} {m : MethodId} {args : Array Value} {below : List Frame} {meth : Method} {c : Code} {A : Nat → Prop} (g : Gm) (C : cX p s m args meth c A cX5_work (some .int) 11 RX5 wq_X5_work (gD g) vwCl (cty g) (cz g)) (st : CS) (x3 : Int32) (x7 : Int32) (y0 : Int32) (H : Heap) (locs : List Loc) (ls : Array Slot) (hI : cI (gD g) vwCl (cw g) A s st H locs) (hl : lv_has ls 11 [(0, .ref (gad g 19)), (3, .int x3), (7, .int x7)]) (X : CS × Int32) (hF : X = cProcessor_work_b210 st x3 x7 y0) : W p l e rm_cProcessor_work s m args below meth c H locs 0 0 (MQ below (cQi (gD g) vwCl (cty g) (cw g) A X.1 X.2) args s 0 0 A) (F0 m 210 ls [.int y0]) := by
  obtain ⟨hx, hb, hr, hml, hown, hts, hlocks, hK, hA, hZ, hzo⟩ := id C
  unfold cProcessor_work_b210 at hF
  refine lv_istore (lv' := [(9, .int y0), (0, .ref (gad g 19)), (3, .int x3), (7, .int x7)]) hx hb dX5_work_210 hl (by decide) rfl (fun ls hl => ?_)
  refine lv_iload hx hb dX5_work_212 (lv_at hl 0 rfl) ?_
  refine lv_if_ne (tgt := 229) hx hb dX5_work_214 (by decide) (fun c_214 => ?_) (fun c_214 => ?_)
  · have hF := hF.trans (if_neg c_214)
    exact k_cProcessor_work_b229 g C st x3 H locs ls hI (lv_sub hl [1, 2] rfl) X hF
  · have hF := hF.trans (if_pos c_214)
    refine lv_aload_n hx hb dX5_work_217 rfl (lv_at hl 1 rfl) ?_
    refine va_get (D := gD g) (ci := 5) (C := RX5) (T := TX5) (N := 10) (v := .ref (gad g 2)) hx hb hts (fun w h => List.mem_cons_of_mem _ (isX50 w h)) hown hK hI.1 19 rfl rfl 0 (by decide) (hts _ (List.mem_cons_of_mem _ mw112)) (fun _ h9 => h9) rfl dX5_work_218 ?_
    refine cx_Vi (As := []) (rest := []) C (c_cRegisters_mode l g st ) (cwV 0 hts (gd_V _ mw329 mw330 mw331 mw14 mw332) rfl rfl rfl yd_yX6_mode ⟨Nat.le_of_ble_eq_true rfl, Nat.le_of_ble_eq_true rfl⟩) (va_recv hK hI.1 (ci := 6) (q0 := 2) rfl rfl) hI rfl hl.1 rfl (Nat.le_of_ble_eq_true rfl) dX5_work_221 (fun H locs hI => ?_)
    refine lv_iload hx hb dX5_work_224 (lv_at hl 3 rfl) ?_
    refine lv_icmp_eq (tgt := 233) hx hb dX5_work_226 (by decide) (fun c_226 => ?_) (fun c_226 => ?_)
    · have hF := hF.trans (if_pos c_226)
      refine lv_iconst (v := (0 : Int32)) hx hb dX5_work_233 (by decide) ?_
      exact k_cProcessor_work_b234 g C st x3 (0 : Int32) H locs ls hI (lv_sub hl [1, 2] rfl) X hF
    · have hF := hF.trans (if_neg c_226)
      exact k_cProcessor_work_b229 g C st x3 H locs ls hI (lv_sub hl [1, 2] rfl) X hF
def cProcessor_work_b209 (st : CS) (x3 : Int32) (x7 : Int32) : CS × Int32 := (cProcessor_work_b210 st x3 x7 (0 : Int32))
set_option maxHeartbeats 4000000 in
set_option maxRecDepth 100000 in
theorem k_cProcessor_work_b209 {p : Program} {l : Launch} {e : Env} {s : State} {m : MethodId} {args : Array Value} {below : List Frame} {meth : Method} {c : Code} {A : Nat → Prop} (g : Gm) (C : cX p s m args meth c A cX5_work (some .int) 11 RX5 wq_X5_work (gD g) vwCl (cty g) (cz g)) (st : CS) (x3 : Int32) (x7 : Int32) (H : Heap) (locs : List Loc) (ls : Array Slot) (hI : cI (gD g) vwCl (cw g) A s st H locs) (hl : lv_has ls 11 [(0, .ref (gad g 19)), (3, .int x3), (7, .int x7)]) (X : CS × Int32) (hF : X = cProcessor_work_b209 st x3 x7) : W p l e rm_cProcessor_work s m args below meth c H locs 0 0 (MQ below (cQi (gD g) vwCl (cty g) (cw g) A X.1 X.2) args s 0 0 A) (F0 m 209 ls []) := by
  obtain ⟨hx, hb, hr, hml, hown, hts, hlocks, hK, hA, hZ, hzo⟩ := id C
  unfold cProcessor_work_b209 at hF
  refine lv_iconst (v := (0 : Int32)) hx hb dX5_work_209 (by decide) ?_
  exact k_cProcessor_work_b210 g C st x3 x7 (0 : Int32) H locs ls hI (lv_sub hl [0, 1, 2] rfl) X hF
def cProcessor_work_b194 (st : CS) (x2 : Int32) (x3 : Int32) (x7 : Int32) (x8 : Int32) : CS × Int32 := (if (x8 = (15 : Int32)) then (if (x2 = 0) then (cProcessor_work_b210 st x3 x7 (1 : Int32)) else (cProcessor_work_b209 st x3 x7)) else (cProcessor_work_b209 st x3 x7))
set_option maxHeartbeats 4000000 in
set_option maxRecDepth 100000 in
theorem k_cProcessor_work_b194 {p : Program} {l : Launch} {e : Env} {s : State} {m : MethodId} {args : Array Value} {below : List Frame} {meth : Method} {c : Code} {A : Nat → Prop} (g : Gm) (C : cX p s m args meth c A cX5_work (some .int) 11 RX5 wq_X5_work (gD g) vwCl (cty g) (cz g)) (st : CS) (x2 : Int32) (x3 : Int32) (x7 : Int32) (x8 : Int32) (H : Heap) (locs : List Loc) (ls : Array Slot) (hI : cI (gD g) vwCl (cw g) A s st H locs) (hl : lv_has ls 11 [(0, .ref (gad g 19)), (2, .int x2), (3, .int x3), (7, .int x7), (8, .int x8)]) (X : CS × Int32) (hF : X = cProcessor_work_b194 st x2 x3 x7 x8) : W p l e rm_cProcessor_work s m args below meth c H locs 0 0 (MQ below (cQi (gD g) vwCl (cty g) (cw g) A X.1 X.2) args s 0 0 A) (F0 m 194 ls []) := by
  obtain ⟨hx, hb, hr, hml, hown, hts, hlocks, hK, hA, hZ, hzo⟩ := id C
  unfold cProcessor_work_b194 at hF
  refine lv_iload hx hb dX5_work_194 (lv_at hl 4 rfl) ?_
  refine lv_bipush (v := (15 : Int32)) hx hb dX5_work_196 (by decide) ?_
  refine lv_icmp_ne (tgt := 209) hx hb dX5_work_198 (by decide) (fun c_198 => ?_) (fun c_198 => ?_)
  · have hF := hF.trans (if_neg c_198)
    exact k_cProcessor_work_b209 g C st x3 x7 H locs ls hI (lv_sub hl [0, 2, 3] rfl) X hF
  · have hF := hF.trans (if_pos c_198)
    refine lv_iload_n hx hb dX5_work_201 rfl (lv_at hl 1 rfl) ?_
    refine lv_if_ne (tgt := 209) hx hb dX5_work_202 (by decide) (fun c_202 => ?_) (fun c_202 => ?_)
    · have hF := hF.trans (if_neg c_202)
      exact k_cProcessor_work_b209 g C st x3 x7 H locs ls hI (lv_sub hl [0, 2, 3] rfl) X hF
    · have hF := hF.trans (if_pos c_202)
      refine lv_iconst (v := (1 : Int32)) hx hb dX5_work_205 (by decide) ?_
      refine lv_goto (tgt := 210) hx hb dX5_work_206 (by decide) ?_
      exact k_cProcessor_work_b210 g C st x3 x7 (1 : Int32) H locs ls hI (lv_sub hl [0, 2, 3] rfl) X hF
def cProcessor_work_b177 (st : CS) (x2 : Int32) (x3 : Int32) (x6 : Int32) (x7 : Int32) (x8 : Int32) : CS × Int32 := (if ((cProcessor_is st (1048576 : Int32)) = 0) then (cProcessor_work_b194 st x2 x3 x7 x8) else (cProcessor_work_b194 (cProcessor_setSignsOfWork st x8 x6) x2 x3 x7 x8))
set_option maxHeartbeats 4000000 in
set_option maxRecDepth 100000 in
theorem k_cProcessor_work_b177 {p : Program} {l : Launch} {e : Env} {s : State} {m : MethodId} {args : Array Value} {below : List Frame} {meth : Method} {c : Code} {A : Nat → Prop} (g : Gm) (C : cX p s m args meth c A cX5_work (some .int) 11 RX5 wq_X5_work (gD g) vwCl (cty g) (cz g)) (st : CS) (x2 : Int32) (x3 : Int32) (x6 : Int32) (x7 : Int32) (x8 : Int32) (H : Heap) (locs : List Loc) (ls : Array Slot) (hI : cI (gD g) vwCl (cw g) A s st H locs) (hl : lv_has ls 11 [(0, .ref (gad g 19)), (2, .int x2), (3, .int x3), (6, .int x6), (7, .int x7), (8, .int x8)]) (X : CS × Int32) (hF : X = cProcessor_work_b177 st x2 x3 x6 x7 x8) : W p l e rm_cProcessor_work s m args below meth c H locs 0 0 (MQ below (cQi (gD g) vwCl (cty g) (cw g) A X.1 X.2) args s 0 0 A) (F0 m 177 ls []) := by
  obtain ⟨hx, hb, hr, hml, hown, hts, hlocks, hK, hA, hZ, hzo⟩ := id C
  unfold cProcessor_work_b177 at hF
  refine lv_aload_n hx hb dX5_work_177 rfl (lv_at hl 0 rfl) ?_
  refine lv_ldc (v := (1048576 : Int32)) hx hb hown (hts _ (List.mem_cons_of_mem _ mw390)) dX5_work_178 ?_
  refine cx_Vi (As := [.int (1048576 : Int32)]) (rest := []) C (c_cProcessor_is l g st (1048576 : Int32)) (cwV 1 hts (gd_V _ mw397 mw398 mw399 mw46 mw400) rfl rfl rfl yd_yX5_is ⟨Nat.le_of_ble_eq_true rfl, Nat.le_of_ble_eq_true rfl⟩) (va_recv hK hI.1 (ci := 5) (q0 := 19) rfl rfl) hI rfl hl.1 rfl (Nat.le_of_ble_eq_true rfl) dX5_work_180 (fun H locs hI => ?_)
  refine lv_if_eq (tgt := 194) hx hb dX5_work_183 (by decide) (fun c_183 => ?_) (fun c_183 => ?_)
  · have hF := hF.trans (if_pos c_183)
    exact k_cProcessor_work_b194 g C st x2 x3 x7 x8 H locs ls hI (lv_sub hl [0, 1, 2, 4, 5] rfl) X hF
  · have hF := hF.trans (if_neg c_183)
    refine lv_aload_n hx hb dX5_work_186 rfl (lv_at hl 0 rfl) ?_
    refine lv_iload hx hb dX5_work_187 (lv_at hl 5 rfl) ?_
    refine lv_iload hx hb dX5_work_189 (lv_at hl 3 rfl) ?_
    refine cx_Vv (As := [.int x8, .int x6]) (rest := []) C (c_cProcessor_setSignsOfWork l g st x8 x6) (cwV 2 hts (gd_V _ mw481 mw482 mw483 mw46 mw484) rfl rfl rfl yd_yX5_setSignsOfWork ⟨Nat.le_of_ble_eq_true rfl, Nat.le_of_ble_eq_true rfl⟩) (va_recv hK hI.1 (ci := 5) (q0 := 19) rfl rfl) hI rfl hl.1 rfl (Nat.le_of_ble_eq_true rfl) dX5_work_191 (fun H locs hI => ?_)
    exact k_cProcessor_work_b194 g C (cProcessor_setSignsOfWork st x8 x6) x2 x3 x7 x8 H locs ls hI (lv_sub hl [0, 1, 2, 4, 5] rfl) X hF
def cProcessor_work_b146 (st : CS) (x2 : Int32) (x3 : Int32) (y0 : Int32) : CS × Int32 := (if (x2 = 0) then (cProcessor_work_b177 (cProcessor_becomeOrGoTo st (cProcessor_part st (12 : Int32)) y0) x2 x3 y0 (cRegisters_mode st) (cProcessor_part st (12 : Int32))) else (cProcessor_work_b177 st x2 x3 y0 (cRegisters_mode st) (cProcessor_part st (12 : Int32))))
set_option maxHeartbeats 4000000 in
set_option maxRecDepth 100000 in
theorem k_cProcessor_work_b146 {p : Program} {l : Launch} {e : Env} {s : State} {m : MethodId} {args : Array Value} {below : List Frame} {meth : Method} {c : Code} {A : Nat → Prop} (g : Gm) (C : cX p s m args meth c A cX5_work (some .int) 11 RX5 wq_X5_work (gD g) vwCl (cty g) (cz g)) (st : CS) (x2 : Int32) (x3 : Int32) (y0 : Int32) (H : Heap) (locs : List Loc) (ls : Array Slot) (hI : cI (gD g) vwCl (cw g) A s st H locs) (hl : lv_has ls 11 [(0, .ref (gad g 19)), (2, .int x2), (3, .int x3)]) (X : CS × Int32) (hF : X = cProcessor_work_b146 st x2 x3 y0) : W p l e rm_cProcessor_work s m args below meth c H locs 0 0 (MQ below (cQi (gD g) vwCl (cty g) (cw g) A X.1 X.2) args s 0 0 A) (F0 m 146 ls [.int y0]) := by
  obtain ⟨hx, hb, hr, hml, hown, hts, hlocks, hK, hA, hZ, hzo⟩ := id C
  unfold cProcessor_work_b146 at hF
  refine lv_istore (lv' := [(6, .int y0), (0, .ref (gad g 19)), (2, .int x2), (3, .int x3)]) hx hb dX5_work_146 hl (by decide) rfl (fun ls hl => ?_)
  refine lv_aload_n hx hb dX5_work_148 rfl (lv_at hl 1 rfl) ?_
  refine va_get (D := gD g) (ci := 5) (C := RX5) (T := TX5) (N := 10) (v := .ref (gad g 2)) hx hb hts (fun w h => List.mem_cons_of_mem _ (isX50 w h)) hown hK hI.1 19 rfl rfl 0 (by decide) (hts _ (List.mem_cons_of_mem _ mw112)) (fun _ h9 => h9) rfl dX5_work_149 ?_
  refine cx_Vi (As := []) (rest := []) C (c_cRegisters_mode l g st ) (cwV 0 hts (gd_V _ mw329 mw330 mw331 mw14 mw332) rfl rfl rfl yd_yX6_mode ⟨Nat.le_of_ble_eq_true rfl, Nat.le_of_ble_eq_true rfl⟩) (va_recv hK hI.1 (ci := 6) (q0 := 2) rfl rfl) hI rfl hl.1 rfl (Nat.le_of_ble_eq_true rfl) dX5_work_152 (fun H locs hI => ?_)
  refine lv_istore (lv' := [(7, .int (cRegisters_mode st)), (6, .int y0), (0, .ref (gad g 19)), (2, .int x2), (3, .int x3)]) hx hb dX5_work_155 hl (by decide) rfl (fun ls hl => ?_)
  refine lv_aload_n hx hb dX5_work_157 rfl (lv_at hl 2 rfl) ?_
  refine lv_bipush (v := (12 : Int32)) hx hb dX5_work_158 (by decide) ?_
  refine cx_Vi (As := [.int (12 : Int32)]) (rest := []) C (c_cProcessor_part l g st (12 : Int32)) (cwV 1 hts (gd_V _ mw393 mw394 mw395 mw46 mw396) rfl rfl rfl yd_yX5_part ⟨Nat.le_of_ble_eq_true rfl, Nat.le_of_ble_eq_true rfl⟩) (va_recv hK hI.1 (ci := 5) (q0 := 19) rfl rfl) hI rfl hl.1 rfl (Nat.le_of_ble_eq_true rfl) dX5_work_160 (fun H locs hI => ?_)
  refine lv_istore (lv' := [(8, .int (cProcessor_part st (12 : Int32))), (7, .int (cRegisters_mode st)), (6, .int y0), (0, .ref (gad g 19)), (2, .int x2), (3, .int x3)]) hx hb dX5_work_163 hl (by decide) rfl (fun ls hl => ?_)
  refine lv_iload_n hx hb dX5_work_165 rfl (lv_at hl 4 rfl) ?_
  refine lv_if_ne (tgt := 177) hx hb dX5_work_166 (by decide) (fun c_166 => ?_) (fun c_166 => ?_)
  · have hF := hF.trans (if_neg c_166)
    exact k_cProcessor_work_b177 g C st x2 x3 y0 (cRegisters_mode st) (cProcessor_part st (12 : Int32)) H locs ls hI (lv_sub hl [3, 4, 5, 2, 1, 0] rfl) X hF
  · have hF := hF.trans (if_pos c_166)
    refine lv_aload_n hx hb dX5_work_169 rfl (lv_at hl 3 rfl) ?_
    refine lv_iload hx hb dX5_work_170 (lv_at hl 0 rfl) ?_
    refine lv_iload hx hb dX5_work_172 (lv_at hl 2 rfl) ?_
    refine cx_Vv (As := [.int (cProcessor_part st (12 : Int32)), .int y0]) (rest := []) C (c_cProcessor_becomeOrGoTo l g st (cProcessor_part st (12 : Int32)) y0) (cwV 2 hts (gd_V _ mw473 mw474 mw475 mw46 mw476) rfl rfl rfl yd_yX5_becomeOrGoTo ⟨Nat.le_of_ble_eq_true rfl, Nat.le_of_ble_eq_true rfl⟩) (va_recv hK hI.1 (ci := 5) (q0 := 19) rfl rfl) hI rfl hl.1 rfl (Nat.le_of_ble_eq_true rfl) dX5_work_174 (fun H locs hI => ?_)
    exact k_cProcessor_work_b177 g C (cProcessor_becomeOrGoTo st (cProcessor_part st (12 : Int32)) y0) x2 x3 y0 (cRegisters_mode st) (cProcessor_part st (12 : Int32)) H locs ls hI (lv_sub hl [3, 4, 5, 2, 1, 0] rfl) X hF
def cProcessor_work_b124 (st : CS) (x1 : Int32) (x2 : Int32) (x3 : Int32) (x4 : Int32) (x5 : Int32) (y0 : Int32) : CS × Int32 := (cProcessor_work_b146 (cProcessor_worked (sI st 34 y0) x1 (cProcessor_operand (sI st 34 y0) (cProcessor_part (sI st 34 y0) (16 : Int32)) x4) x5).1 x2 x3 (cProcessor_worked (sI st 34 y0) x1 (cProcessor_operand (sI st 34 y0) (cProcessor_part (sI st 34 y0) (16 : Int32)) x4) x5).2)
set_option maxHeartbeats 4000000 in
set_option maxRecDepth 100000 in
theorem k_cProcessor_work_b124 {p : Program} {l : Launch} {e : Env} {s : State} {m : MethodId} {args : Array Value} {below : List Frame} {meth : Method} {c : Code} {A : Nat → Prop} (g : Gm) (C : cX p s m args meth c A cX5_work (some .int) 11 RX5 wq_X5_work (gD g) vwCl (cty g) (cz g)) (st : CS) (x1 : Int32) (x2 : Int32) (x3 : Int32) (x4 : Int32) (x5 : Int32) (y0 : Int32) (H : Heap) (locs : List Loc) (ls : Array Slot) (hI : cI (gD g) vwCl (cw g) A s st H locs) (hl : lv_has ls 11 [(0, .ref (gad g 19)), (1, .int x1), (2, .int x2), (3, .int x3), (4, .int x4), (5, .int x5)]) (X : CS × Int32) (hF : X = cProcessor_work_b124 st x1 x2 x3 x4 x5 y0) : W p l e rm_cProcessor_work s m args below meth c H locs 0 0 (MQ below (cQi (gD g) vwCl (cty g) (cw g) A X.1 X.2) args s 0 0 A) (F0 m 124 ls [.int y0, .ref (gad g 19)]) := by
  obtain ⟨hx, hb, hr, hml, hown, hts, hlocks, hK, hA, hZ, hzo⟩ := id C
  unfold cProcessor_work_b124 at hF
  refine va_put (D := gD g) (ci := 5) (C := RX5) (T := TX5) (N := 10) (v := .int y0) (ty := .int) hx hb hts (fun w h => List.mem_cons_of_mem _ (isX50 w h)) tyX5 tyX5_ok nmX5 hown hK hI.1 hI.2.1 hI.2.2 19 rfl rfl 8 (by decide) (hts _ (List.mem_cons_of_mem _ mw392)) (fun _ h9 => h9) rfl (by decide +kernel) rfl rfl (Nat.le_of_ble_eq_true rfl) dX5_work_124 (fun H locs hP hD hS => ?_)
  have hI : cI (gD g) vwCl (cw g) A s (sI st 34 y0) H locs := ⟨hP, hD, hS⟩
  refine lv_aload_n hx hb dX5_work_127 rfl (lv_at hl 0 rfl) ?_
  refine lv_iload_n hx hb dX5_work_128 rfl (lv_at hl 1 rfl) ?_
  refine lv_aload_n hx hb dX5_work_129 rfl (lv_at hl 0 rfl) ?_
  refine lv_aload_n hx hb dX5_work_130 rfl (lv_at hl 0 rfl) ?_
  refine lv_bipush (v := (16 : Int32)) hx hb dX5_work_131 (by decide) ?_
  refine cx_Vi (As := [.int (16 : Int32)]) (rest := [.ref (gad g 19), .int x1, .ref (gad g 19)]) C (c_cProcessor_part l g (sI st 34 y0) (16 : Int32)) (cwV 1 hts (gd_V _ mw393 mw394 mw395 mw46 mw396) rfl rfl rfl yd_yX5_part ⟨Nat.le_of_ble_eq_true rfl, Nat.le_of_ble_eq_true rfl⟩) (va_recv hK hI.1 (ci := 5) (q0 := 19) rfl rfl) hI rfl hl.1 rfl (Nat.le_of_ble_eq_true rfl) dX5_work_133 (fun H locs hI => ?_)
  refine lv_iload hx hb dX5_work_136 (lv_at hl 4 rfl) ?_
  refine cx_Vi (As := [.int (cProcessor_part (sI st 34 y0) (16 : Int32)), .int x4]) (rest := [.int x1, .ref (gad g 19)]) C (c_cProcessor_operand l g (sI st 34 y0) (cProcessor_part (sI st 34 y0) (16 : Int32)) x4) (cwV 2 hts (gd_V _ mw444 mw445 mw446 mw46 mw447) rfl rfl rfl yd_yX5_operand ⟨Nat.le_of_ble_eq_true rfl, Nat.le_of_ble_eq_true rfl⟩) (va_recv hK hI.1 (ci := 5) (q0 := 19) rfl rfl) hI rfl hl.1 rfl (Nat.le_of_ble_eq_true rfl) dX5_work_138 (fun H locs hI => ?_)
  refine lv_iload hx hb dX5_work_141 (lv_at hl 5 rfl) ?_
  refine cx_Vi (As := [.int x1, .int (cProcessor_operand (sI st 34 y0) (cProcessor_part (sI st 34 y0) (16 : Int32)) x4), .int x5]) (rest := []) C (c_cProcessor_worked l g (sI st 34 y0) x1 (cProcessor_operand (sI st 34 y0) (cProcessor_part (sI st 34 y0) (16 : Int32)) x4) x5) (cwV 3 hts (gd_V _ mw464 mw465 mw466 mw46 mw467) rfl rfl rfl yd_yX5_worked ⟨Nat.le_of_ble_eq_true rfl, Nat.le_of_ble_eq_true rfl⟩) (va_recv hK hI.1 (ci := 5) (q0 := 19) rfl rfl) hI rfl hl.1 rfl (Nat.le_of_ble_eq_true rfl) dX5_work_143 (fun H locs hI => ?_)
  exact k_cProcessor_work_b146 g C (cProcessor_worked (sI st 34 y0) x1 (cProcessor_operand (sI st 34 y0) (cProcessor_part (sI st 34 y0) (16 : Int32)) x4) x5).1 x2 x3 (cProcessor_worked (sI st 34 y0) x1 (cProcessor_operand (sI st 34 y0) (cProcessor_part (sI st 34 y0) (16 : Int32)) x4) x5).2 H locs ls hI (lv_sub hl [0, 2, 3] rfl) X hF
def cProcessor_work_b104 (st : CS) (x1 : Int32) (x2 : Int32) (x3 : Int32) (x4 : Int32) (y0 : Int32) : CS × Int32 := (if ((cRegisters_has st (268435456 : Int32)) = 0) then (cProcessor_work_b124 st x1 x2 x3 x4 y0 (0 : Int32)) else (cProcessor_work_b124 st x1 x2 x3 x4 y0 (1 : Int32)))
set_option maxHeartbeats 4000000 in
set_option maxRecDepth 100000 in
theorem k_cProcessor_work_b104 {p : Program} {l : Launch} {e : Env} {s : State} {m : MethodId} {args : Array Value} {below : List Frame} {meth : Method} {c : Code} {A : Nat → Prop} (g : Gm) (C : cX p s m args meth c A cX5_work (some .int) 11 RX5 wq_X5_work (gD g) vwCl (cty g) (cz g)) (st : CS) (x1 : Int32) (x2 : Int32) (x3 : Int32) (x4 : Int32) (y0 : Int32) (H : Heap) (locs : List Loc) (ls : Array Slot) (hI : cI (gD g) vwCl (cw g) A s st H locs) (hl : lv_has ls 11 [(0, .ref (gad g 19)), (1, .int x1), (2, .int x2), (3, .int x3), (4, .int x4)]) (X : CS × Int32) (hF : X = cProcessor_work_b104 st x1 x2 x3 x4 y0) : W p l e rm_cProcessor_work s m args below meth c H locs 0 0 (MQ below (cQi (gD g) vwCl (cty g) (cw g) A X.1 X.2) args s 0 0 A) (F0 m 104 ls [.int y0]) := by
  obtain ⟨hx, hb, hr, hml, hown, hts, hlocks, hK, hA, hZ, hzo⟩ := id C
  unfold cProcessor_work_b104 at hF
  refine lv_istore (lv' := [(5, .int y0), (0, .ref (gad g 19)), (1, .int x1), (2, .int x2), (3, .int x3), (4, .int x4)]) hx hb dX5_work_104 hl (by decide) rfl (fun ls hl => ?_)
  refine lv_aload_n hx hb dX5_work_106 rfl (lv_at hl 1 rfl) ?_
  refine lv_aload_n hx hb dX5_work_107 rfl (lv_at hl 1 rfl) ?_
  refine va_get (D := gD g) (ci := 5) (C := RX5) (T := TX5) (N := 10) (v := .ref (gad g 2)) hx hb hts (fun w h => List.mem_cons_of_mem _ (isX50 w h)) hown hK hI.1 19 rfl rfl 0 (by decide) (hts _ (List.mem_cons_of_mem _ mw112)) (fun _ h9 => h9) rfl dX5_work_108 ?_
  refine lv_ldc (v := (268435456 : Int32)) hx hb hown (hts _ (List.mem_cons_of_mem _ mw381)) dX5_work_111 ?_
  refine cx_Vi (As := [.int (268435456 : Int32)]) (rest := [.ref (gad g 19)]) C (c_cRegisters_has l g st (268435456 : Int32)) (cwV 1 hts (gd_V _ mw321 mw322 mw323 mw14 mw324) rfl rfl rfl yd_yX6_has ⟨Nat.le_of_ble_eq_true rfl, Nat.le_of_ble_eq_true rfl⟩) (va_recv hK hI.1 (ci := 6) (q0 := 2) rfl rfl) hI rfl hl.1 rfl (Nat.le_of_ble_eq_true rfl) dX5_work_113 (fun H locs hI => ?_)
  refine lv_if_eq (tgt := 123) hx hb dX5_work_116 (by decide) (fun c_116 => ?_) (fun c_116 => ?_)
  · have hF := hF.trans (if_pos c_116)
    refine lv_iconst (v := (0 : Int32)) hx hb dX5_work_123 (by decide) ?_
    exact k_cProcessor_work_b124 g C st x1 x2 x3 x4 y0 (0 : Int32) H locs ls hI (lv_sub hl [1, 2, 3, 4, 5, 0] rfl) X hF
  · have hF := hF.trans (if_neg c_116)
    refine lv_iconst (v := (1 : Int32)) hx hb dX5_work_119 (by decide) ?_
    refine lv_goto (tgt := 124) hx hb dX5_work_120 (by decide) ?_
    exact k_cProcessor_work_b124 g C st x1 x2 x3 x4 y0 (1 : Int32) H locs ls hI (lv_sub hl [1, 2, 3, 4, 5, 0] rfl) X hF
def cProcessor_work_b94 (st : CS) (x1 : Int32) (x2 : Int32) (x3 : Int32) (x4 : Int32) (y0 : Int32) : CS × Int32 := (cProcessor_work_b104 st x1 x2 x3 x4 y0)
set_option maxHeartbeats 4000000 in
set_option maxRecDepth 100000 in
theorem k_cProcessor_work_b94 {p : Program} {l : Launch} {e : Env} {s : State} {m : MethodId} {args : Array Value} {below : List Frame} {meth : Method} {c : Code} {A : Nat → Prop} (g : Gm) (C : cX p s m args meth c A cX5_work (some .int) 11 RX5 wq_X5_work (gD g) vwCl (cty g) (cz g)) (st : CS) (x1 : Int32) (x2 : Int32) (x3 : Int32) (x4 : Int32) (y0 : Int32) (H : Heap) (locs : List Loc) (ls : Array Slot) (hI : cI (gD g) vwCl (cw g) A s st H locs) (hl : lv_has ls 11 [(0, .ref (gad g 19)), (1, .int x1), (2, .int x2), (3, .int x3), (4, .int x4)]) (X : CS × Int32) (hF : X = cProcessor_work_b94 st x1 x2 x3 x4 y0) : W p l e rm_cProcessor_work s m args below meth c H locs 0 0 (MQ below (cQi (gD g) vwCl (cty g) (cw g) A X.1 X.2) args s 0 0 A) (F0 m 94 ls [.int y0]) := by
  obtain ⟨hx, hb, hr, hml, hown, hts, hlocks, hK, hA, hZ, hzo⟩ := id C
  unfold cProcessor_work_b94 at hF
  refine lv_goto (tgt := 104) hx hb dX5_work_94 (by decide) ?_
  exact k_cProcessor_work_b104 g C st x1 x2 x3 x4 y0 H locs ls hI (lv_sub hl [0, 1, 2, 3, 4] rfl) X hF
def cProcessor_work_b79 (st : CS) (x1 : Int32) (x2 : Int32) (x3 : Int32) (y0 : Int32) : CS × Int32 := (if ((cProcessor_is st (33554432 : Int32)) = 0) then (cProcessor_work_b104 (cProcessor_shiftedRegister st x3 y0).1 x1 x2 x3 y0 (cProcessor_shiftedRegister st x3 y0).2) else (cProcessor_work_b94 (cProcessor_turnedByte st).1 x1 x2 x3 y0 (cProcessor_turnedByte st).2))
set_option maxHeartbeats 4000000 in
set_option maxRecDepth 100000 in
theorem k_cProcessor_work_b79 {p : Program} {l : Launch} {e : Env} {s : State} {m : MethodId} {args : Array Value} {below : List Frame} {meth : Method} {c : Code} {A : Nat → Prop} (g : Gm) (C : cX p s m args meth c A cX5_work (some .int) 11 RX5 wq_X5_work (gD g) vwCl (cty g) (cz g)) (st : CS) (x1 : Int32) (x2 : Int32) (x3 : Int32) (y0 : Int32) (H : Heap) (locs : List Loc) (ls : Array Slot) (hI : cI (gD g) vwCl (cw g) A s st H locs) (hl : lv_has ls 11 [(0, .ref (gad g 19)), (1, .int x1), (2, .int x2), (3, .int x3)]) (X : CS × Int32) (hF : X = cProcessor_work_b79 st x1 x2 x3 y0) : W p l e rm_cProcessor_work s m args below meth c H locs 0 0 (MQ below (cQi (gD g) vwCl (cty g) (cw g) A X.1 X.2) args s 0 0 A) (F0 m 79 ls [.int y0]) := by
  obtain ⟨hx, hb, hr, hml, hown, hts, hlocks, hK, hA, hZ, hzo⟩ := id C
  unfold cProcessor_work_b79 at hF
  refine lv_istore (lv' := [(4, .int y0), (0, .ref (gad g 19)), (1, .int x1), (2, .int x2), (3, .int x3)]) hx hb dX5_work_79 hl (by decide) rfl (fun ls hl => ?_)
  refine lv_aload_n hx hb dX5_work_81 rfl (lv_at hl 1 rfl) ?_
  refine lv_ldc (v := (33554432 : Int32)) hx hb hown (hts _ (List.mem_cons_of_mem _ mw391)) dX5_work_82 ?_
  refine cx_Vi (As := [.int (33554432 : Int32)]) (rest := []) C (c_cProcessor_is l g st (33554432 : Int32)) (cwV 1 hts (gd_V _ mw397 mw398 mw399 mw46 mw400) rfl rfl rfl yd_yX5_is ⟨Nat.le_of_ble_eq_true rfl, Nat.le_of_ble_eq_true rfl⟩) (va_recv hK hI.1 (ci := 5) (q0 := 19) rfl rfl) hI rfl hl.1 rfl (Nat.le_of_ble_eq_true rfl) dX5_work_84 (fun H locs hI => ?_)
  refine lv_if_eq (tgt := 97) hx hb dX5_work_87 (by decide) (fun c_87 => ?_) (fun c_87 => ?_)
  · have hF := hF.trans (if_pos c_87)
    refine lv_aload_n hx hb dX5_work_97 rfl (lv_at hl 1 rfl) ?_
    refine lv_iload_n hx hb dX5_work_98 rfl (lv_at hl 4 rfl) ?_
    refine lv_iload hx hb dX5_work_99 (lv_at hl 0 rfl) ?_
    refine cx_Vi (As := [.int x3, .int y0]) (rest := []) C (c_cProcessor_shiftedRegister l g st x3 y0) (cwV 2 hts (gd_V _ mw440 mw441 mw442 mw46 mw443) rfl rfl rfl yd_yX5_shiftedRegister ⟨Nat.le_of_ble_eq_true rfl, Nat.le_of_ble_eq_true rfl⟩) (va_recv hK hI.1 (ci := 5) (q0 := 19) rfl rfl) hI rfl hl.1 rfl (Nat.le_of_ble_eq_true rfl) dX5_work_101 (fun H locs hI => ?_)
    exact k_cProcessor_work_b104 g C (cProcessor_shiftedRegister st x3 y0).1 x1 x2 x3 y0 (cProcessor_shiftedRegister st x3 y0).2 H locs ls hI (lv_sub hl [1, 2, 3, 4, 0] rfl) X hF
  · have hF := hF.trans (if_neg c_87)
    refine lv_aload_n hx hb dX5_work_90 rfl (lv_at hl 1 rfl) ?_
    refine cx_Vi (As := []) (rest := []) C (c_cProcessor_turnedByte l g st ) (cwV 0 hts (gd_V _ mw428 mw429 mw430 mw46 mw431) rfl rfl rfl yd_yX5_turnedByte ⟨Nat.le_of_ble_eq_true rfl, Nat.le_of_ble_eq_true rfl⟩) (va_recv hK hI.1 (ci := 5) (q0 := 19) rfl rfl) hI rfl hl.1 rfl (Nat.le_of_ble_eq_true rfl) dX5_work_91 (fun H locs hI => ?_)
    exact k_cProcessor_work_b94 g C (cProcessor_turnedByte st).1 x1 x2 x3 y0 (cProcessor_turnedByte st).2 H locs ls hI (lv_sub hl [1, 2, 3, 4, 0] rfl) X hF
def cProcessor_work_b67 (st : CS) (x1 : Int32) (x2 : Int32) (y0 : Int32) : CS × Int32 := (if (y0 = 0) then (cProcessor_work_b79 st x1 x2 y0 (8 : Int32)) else (cProcessor_work_b79 st x1 x2 y0 (12 : Int32)))
set_option maxHeartbeats 4000000 in
set_option maxRecDepth 100000 in
theorem k_cProcessor_work_b67 {p : Program} {l : Launch} {e : Env} {s : State} {m : MethodId} {args : Array Value} {below : List Frame} {meth : Method} {c : Code} {A : Nat → Prop} (g : Gm) (C : cX p s m args meth c A cX5_work (some .int) 11 RX5 wq_X5_work (gD g) vwCl (cty g) (cz g)) (st : CS) (x1 : Int32) (x2 : Int32) (y0 : Int32) (H : Heap) (locs : List Loc) (ls : Array Slot) (hI : cI (gD g) vwCl (cw g) A s st H locs) (hl : lv_has ls 11 [(0, .ref (gad g 19)), (1, .int x1), (2, .int x2)]) (X : CS × Int32) (hF : X = cProcessor_work_b67 st x1 x2 y0) : W p l e rm_cProcessor_work s m args below meth c H locs 0 0 (MQ below (cQi (gD g) vwCl (cty g) (cw g) A X.1 X.2) args s 0 0 A) (F0 m 67 ls [.int y0]) := by
  obtain ⟨hx, hb, hr, hml, hown, hts, hlocks, hK, hA, hZ, hzo⟩ := id C
  unfold cProcessor_work_b67 at hF
  refine lv_istore_n (lv' := [(3, .int y0), (0, .ref (gad g 19)), (1, .int x1), (2, .int x2)]) hx hb dX5_work_67 rfl hl (by decide) rfl (fun ls hl => ?_)
  refine lv_iload_n hx hb dX5_work_68 rfl (lv_at hl 0 rfl) ?_
  refine lv_if_eq (tgt := 77) hx hb dX5_work_69 (by decide) (fun c_69 => ?_) (fun c_69 => ?_)
  · have hF := hF.trans (if_pos c_69)
    refine lv_bipush (v := (8 : Int32)) hx hb dX5_work_77 (by decide) ?_
    exact k_cProcessor_work_b79 g C st x1 x2 y0 (8 : Int32) H locs ls hI (lv_sub hl [1, 2, 3, 0] rfl) X hF
  · have hF := hF.trans (if_neg c_69)
    refine lv_bipush (v := (12 : Int32)) hx hb dX5_work_72 (by decide) ?_
    refine lv_goto (tgt := 79) hx hb dX5_work_74 (by decide) ?_
    exact k_cProcessor_work_b79 g C st x1 x2 y0 (12 : Int32) H locs ls hI (lv_sub hl [1, 2, 3, 0] rfl) X hF
def cProcessor_work_b66 (st : CS) (x1 : Int32) (x2 : Int32) : CS × Int32 := (cProcessor_work_b67 st x1 x2 (0 : Int32))
set_option maxHeartbeats 4000000 in
set_option maxRecDepth 100000 in
theorem k_cProcessor_work_b66 {p : Program} {l : Launch} {e : Env} {s : State} {m : MethodId} {args : Array Value} {below : List Frame} {meth : Method} {c : Code} {A : Nat → Prop} (g : Gm) (C : cX p s m args meth c A cX5_work (some .int) 11 RX5 wq_X5_work (gD g) vwCl (cty g) (cz g)) (st : CS) (x1 : Int32) (x2 : Int32) (H : Heap) (locs : List Loc) (ls : Array Slot) (hI : cI (gD g) vwCl (cw g) A s st H locs) (hl : lv_has ls 11 [(0, .ref (gad g 19)), (1, .int x1), (2, .int x2)]) (X : CS × Int32) (hF : X = cProcessor_work_b66 st x1 x2) : W p l e rm_cProcessor_work s m args below meth c H locs 0 0 (MQ below (cQi (gD g) vwCl (cty g) (cw g) A X.1 X.2) args s 0 0 A) (F0 m 66 ls []) := by
  obtain ⟨hx, hb, hr, hml, hown, hts, hlocks, hK, hA, hZ, hzo⟩ := id C
  unfold cProcessor_work_b66 at hF
  refine lv_iconst (v := (0 : Int32)) hx hb dX5_work_66 (by decide) ?_
  exact k_cProcessor_work_b67 g C st x1 x2 (0 : Int32) H locs ls hI (lv_sub hl [0, 1, 2] rfl) X hF
def cProcessor_work_b44 (st : CS) (x1 : Int32) (x2 : Int32) : CS × Int32 := (if ((cProcessor_is st (33554432 : Int32)) = 0) then (if ((cProcessor_is st (16 : Int32)) = 0) then (cProcessor_work_b66 st x1 x2) else (cProcessor_work_b67 st x1 x2 (1 : Int32))) else (cProcessor_work_b66 st x1 x2))
set_option maxHeartbeats 4000000 in
set_option maxRecDepth 100000 in
theorem k_cProcessor_work_b44 {p : Program} {l : Launch} {e : Env} {s : State} {m : MethodId} {args : Array Value} {below : List Frame} {meth : Method} {c : Code} {A : Nat → Prop} (g : Gm) (C : cX p s m args meth c A cX5_work (some .int) 11 RX5 wq_X5_work (gD g) vwCl (cty g) (cz g)) (st : CS) (x1 : Int32) (x2 : Int32) (H : Heap) (locs : List Loc) (ls : Array Slot) (hI : cI (gD g) vwCl (cw g) A s st H locs) (hl : lv_has ls 11 [(0, .ref (gad g 19)), (1, .int x1), (2, .int x2)]) (X : CS × Int32) (hF : X = cProcessor_work_b44 st x1 x2) : W p l e rm_cProcessor_work s m args below meth c H locs 0 0 (MQ below (cQi (gD g) vwCl (cty g) (cw g) A X.1 X.2) args s 0 0 A) (F0 m 44 ls []) := by
  obtain ⟨hx, hb, hr, hml, hown, hts, hlocks, hK, hA, hZ, hzo⟩ := id C
  unfold cProcessor_work_b44 at hF
  refine lv_aload_n hx hb dX5_work_44 rfl (lv_at hl 0 rfl) ?_
  refine lv_ldc (v := (33554432 : Int32)) hx hb hown (hts _ (List.mem_cons_of_mem _ mw391)) dX5_work_45 ?_
  refine cx_Vi (As := [.int (33554432 : Int32)]) (rest := []) C (c_cProcessor_is l g st (33554432 : Int32)) (cwV 1 hts (gd_V _ mw397 mw398 mw399 mw46 mw400) rfl rfl rfl yd_yX5_is ⟨Nat.le_of_ble_eq_true rfl, Nat.le_of_ble_eq_true rfl⟩) (va_recv hK hI.1 (ci := 5) (q0 := 19) rfl rfl) hI rfl hl.1 rfl (Nat.le_of_ble_eq_true rfl) dX5_work_47 (fun H locs hI => ?_)
  refine lv_if_ne (tgt := 66) hx hb dX5_work_50 (by decide) (fun c_50 => ?_) (fun c_50 => ?_)
  · have hF := hF.trans (if_neg c_50)
    exact k_cProcessor_work_b66 g C st x1 x2 H locs ls hI (lv_sub hl [0, 1, 2] rfl) X hF
  · have hF := hF.trans (if_pos c_50)
    refine lv_aload_n hx hb dX5_work_53 rfl (lv_at hl 0 rfl) ?_
    refine lv_bipush (v := (16 : Int32)) hx hb dX5_work_54 (by decide) ?_
    refine cx_Vi (As := [.int (16 : Int32)]) (rest := []) C (c_cProcessor_is l g st (16 : Int32)) (cwV 1 hts (gd_V _ mw397 mw398 mw399 mw46 mw400) rfl rfl rfl yd_yX5_is ⟨Nat.le_of_ble_eq_true rfl, Nat.le_of_ble_eq_true rfl⟩) (va_recv hK hI.1 (ci := 5) (q0 := 19) rfl rfl) hI rfl hl.1 rfl (Nat.le_of_ble_eq_true rfl) dX5_work_56 (fun H locs hI => ?_)
    refine lv_if_eq (tgt := 66) hx hb dX5_work_59 (by decide) (fun c_59 => ?_) (fun c_59 => ?_)
    · have hF := hF.trans (if_pos c_59)
      exact k_cProcessor_work_b66 g C st x1 x2 H locs ls hI (lv_sub hl [0, 1, 2] rfl) X hF
    · have hF := hF.trans (if_neg c_59)
      refine lv_iconst (v := (1 : Int32)) hx hb dX5_work_62 (by decide) ?_
      refine lv_goto (tgt := 67) hx hb dX5_work_63 (by decide) ?_
      exact k_cProcessor_work_b67 g C st x1 x2 (1 : Int32) H locs ls hI (lv_sub hl [0, 1, 2] rfl) X hF
def cProcessor_work_b24 (st : CS) (x1 : Int32) (y0 : Int32) : CS × Int32 := (if (y0 = 0) then (cProcessor_work_b44 st x1 y0) else (if ((cProcessor_is st (1048576 : Int32)) = 0) then ((cProcessor_take st (0 : Int32)).1, (cProcessor_take st (0 : Int32)).2) else (cProcessor_work_b44 st x1 y0)))
set_option maxHeartbeats 4000000 in
set_option maxRecDepth 100000 in
theorem k_cProcessor_work_b24 {p : Program} {l : Launch} {e : Env} {s : State} {m : MethodId} {args : Array Value} {below : List Frame} {meth : Method} {c : Code} {A : Nat → Prop} (g : Gm) (C : cX p s m args meth c A cX5_work (some .int) 11 RX5 wq_X5_work (gD g) vwCl (cty g) (cz g)) (st : CS) (x1 : Int32) (y0 : Int32) (H : Heap) (locs : List Loc) (ls : Array Slot) (hI : cI (gD g) vwCl (cw g) A s st H locs) (hl : lv_has ls 11 [(0, .ref (gad g 19)), (1, .int x1)]) (X : CS × Int32) (hF : X = cProcessor_work_b24 st x1 y0) : W p l e rm_cProcessor_work s m args below meth c H locs 0 0 (MQ below (cQi (gD g) vwCl (cty g) (cw g) A X.1 X.2) args s 0 0 A) (F0 m 24 ls [.int y0]) := by
  obtain ⟨hx, hb, hr, hml, hown, hts, hlocks, hK, hA, hZ, hzo⟩ := id C
  unfold cProcessor_work_b24 at hF
  refine lv_istore_n (lv' := [(2, .int y0), (0, .ref (gad g 19)), (1, .int x1)]) hx hb dX5_work_24 rfl hl (by decide) rfl (fun ls hl => ?_)
  refine lv_iload_n hx hb dX5_work_25 rfl (lv_at hl 0 rfl) ?_
  refine lv_if_eq (tgt := 44) hx hb dX5_work_26 (by decide) (fun c_26 => ?_) (fun c_26 => ?_)
  · have hF := hF.trans (if_pos c_26)
    exact k_cProcessor_work_b44 g C st x1 y0 H locs ls hI (lv_sub hl [1, 2, 0] rfl) X hF
  · have hF := hF.trans (if_neg c_26)
    refine lv_aload_n hx hb dX5_work_29 rfl (lv_at hl 1 rfl) ?_
    refine lv_ldc (v := (1048576 : Int32)) hx hb hown (hts _ (List.mem_cons_of_mem _ mw390)) dX5_work_30 ?_
    refine cx_Vi (As := [.int (1048576 : Int32)]) (rest := []) C (c_cProcessor_is l g st (1048576 : Int32)) (cwV 1 hts (gd_V _ mw397 mw398 mw399 mw46 mw400) rfl rfl rfl yd_yX5_is ⟨Nat.le_of_ble_eq_true rfl, Nat.le_of_ble_eq_true rfl⟩) (va_recv hK hI.1 (ci := 5) (q0 := 19) rfl rfl) hI rfl hl.1 rfl (Nat.le_of_ble_eq_true rfl) dX5_work_32 (fun H locs hI => ?_)
    refine lv_if_ne (tgt := 44) hx hb dX5_work_35 (by decide) (fun c_35 => ?_) (fun c_35 => ?_)
    · have hF := hF.trans (if_neg c_35)
      exact k_cProcessor_work_b44 g C st x1 y0 H locs ls hI (lv_sub hl [1, 2, 0] rfl) X hF
    · have hF := hF.trans (if_pos c_35)
      refine lv_aload_n hx hb dX5_work_38 rfl (lv_at hl 1 rfl) ?_
      refine lv_iconst (v := (0 : Int32)) hx hb dX5_work_39 (by decide) ?_
      refine cx_Vi (As := [.int (0 : Int32)]) (rest := []) C (c_cProcessor_take l g st (0 : Int32)) (cwV 1 hts (gd_V _ mw401 mw402 mw403 mw46 mw404) rfl rfl rfl yd_yX5_take ⟨Nat.le_of_ble_eq_true rfl, Nat.le_of_ble_eq_true rfl⟩) (va_recv hK hI.1 (ci := 5) (q0 := 19) rfl rfl) hI rfl hl.1 rfl (Nat.le_of_ble_eq_true rfl) dX5_work_40 (fun H locs hI => ?_)
      exact cx_iret C hI (congrArg Prod.fst hF) (congrArg Prod.snd hF) dX5_work_43
def cProcessor_work_b23 (st : CS) (x1 : Int32) : CS × Int32 := (cProcessor_work_b24 st x1 (0 : Int32))
set_option maxHeartbeats 4000000 in
set_option maxRecDepth 100000 in
theorem k_cProcessor_work_b23 {p : Program} {l : Launch} {e : Env} {s : State} {m : MethodId} {args : Array Value} {below : List Frame} {meth : Method} {c : Code} {A : Nat → Prop} (g : Gm) (C : cX p s m args meth c A cX5_work (some .int) 11 RX5 wq_X5_work (gD g) vwCl (cty g) (cz g)) (st : CS) (x1 : Int32) (H : Heap) (locs : List Loc) (ls : Array Slot) (hI : cI (gD g) vwCl (cw g) A s st H locs) (hl : lv_has ls 11 [(0, .ref (gad g 19)), (1, .int x1)]) (X : CS × Int32) (hF : X = cProcessor_work_b23 st x1) : W p l e rm_cProcessor_work s m args below meth c H locs 0 0 (MQ below (cQi (gD g) vwCl (cty g) (cw g) A X.1 X.2) args s 0 0 A) (F0 m 23 ls []) := by
  obtain ⟨hx, hb, hr, hml, hown, hts, hlocks, hK, hA, hZ, hzo⟩ := id C
  unfold cProcessor_work_b23 at hF
  refine lv_iconst (v := (0 : Int32)) hx hb dX5_work_23 (by decide) ?_
  exact k_cProcessor_work_b24 g C st x1 (0 : Int32) H locs ls hI (lv_sub hl [0, 1] rfl) X hF
def cProcessor_work (st : CS) : CS × Int32 := (if ((cProcessor_part st (21 : Int32)) < (8 : Int32)) then (cProcessor_work_b23 st (cProcessor_part st (21 : Int32))) else (if ((11 : Int32) < (cProcessor_part st (21 : Int32))) then (cProcessor_work_b23 st (cProcessor_part st (21 : Int32))) else (cProcessor_work_b24 st (cProcessor_part st (21 : Int32)) (1 : Int32))))
set_option maxHeartbeats 4000000 in
set_option maxRecDepth 100000 in
theorem k_cProcessor_work {p : Program} {l : Launch} {e : Env} {s : State} {m : MethodId} {args : Array Value} {below : List Frame} {meth : Method} {c : Code} {A : Nat → Prop} (g : Gm) (C : cX p s m args meth c A cX5_work (some .int) 11 RX5 wq_X5_work (gD g) vwCl (cty g) (cz g)) (st : CS) (H : Heap) (locs : List Loc) (ls : Array Slot) (hI : cI (gD g) vwCl (cw g) A s st H locs) (hl : lv_has ls 11 [(0, .ref (gad g 19))]) (X : CS × Int32) (hF : X = cProcessor_work st) : W p l e rm_cProcessor_work s m args below meth c H locs 0 0 (MQ below (cQi (gD g) vwCl (cty g) (cw g) A X.1 X.2) args s 0 0 A) (F0 m 0 ls []) := by
  obtain ⟨hx, hb, hr, hml, hown, hts, hlocks, hK, hA, hZ, hzo⟩ := id C
  unfold cProcessor_work at hF
  refine lv_aload_n hx hb dX5_work_0 rfl (lv_at hl 0 rfl) ?_
  refine lv_bipush (v := (21 : Int32)) hx hb dX5_work_1 (by decide) ?_
  refine cx_Vi (As := [.int (21 : Int32)]) (rest := []) C (c_cProcessor_part l g st (21 : Int32)) (cwV 1 hts (gd_V _ mw393 mw394 mw395 mw46 mw396) rfl rfl rfl yd_yX5_part ⟨Nat.le_of_ble_eq_true rfl, Nat.le_of_ble_eq_true rfl⟩) (va_recv hK hI.1 (ci := 5) (q0 := 19) rfl rfl) hI rfl hl.1 rfl (Nat.le_of_ble_eq_true rfl) dX5_work_3 (fun H locs hI => ?_)
  refine lv_istore_n (lv' := [(1, .int (cProcessor_part st (21 : Int32))), (0, .ref (gad g 19))]) hx hb dX5_work_6 rfl hl (by decide) rfl (fun ls hl => ?_)
  refine lv_iload_n hx hb dX5_work_7 rfl (lv_at hl 0 rfl) ?_
  refine lv_bipush (v := (8 : Int32)) hx hb dX5_work_8 (by decide) ?_
  refine lv_icmp_lt (tgt := 23) hx hb dX5_work_10 (by decide) (fun c_10 => ?_) (fun c_10 => ?_)
  · have hF := hF.trans (if_pos c_10)
    exact k_cProcessor_work_b23 g C st (cProcessor_part st (21 : Int32)) H locs ls hI (lv_sub hl [1, 0] rfl) X hF
  · have hF := hF.trans (if_neg c_10)
    refine lv_iload_n hx hb dX5_work_13 rfl (lv_at hl 0 rfl) ?_
    refine lv_bipush (v := (11 : Int32)) hx hb dX5_work_14 (by decide) ?_
    refine lv_icmp_gt (tgt := 23) hx hb dX5_work_16 (by decide) (fun c_16 => ?_) (fun c_16 => ?_)
    · have hF := hF.trans (if_pos c_16)
      exact k_cProcessor_work_b23 g C st (cProcessor_part st (21 : Int32)) H locs ls hI (lv_sub hl [1, 0] rfl) X hF
    · have hF := hF.trans (if_neg c_16)
      refine lv_iconst (v := (1 : Int32)) hx hb dX5_work_19 (by decide) ?_
      refine lv_goto (tgt := 24) hx hb dX5_work_20 (by decide) ?_
      exact k_cProcessor_work_b24 g C st (cProcessor_part st (21 : Int32)) (1 : Int32) H locs ls hI (lv_sub hl [1, 0] rfl) X hF
set_option maxHeartbeats 4000000 in
set_option maxRecDepth 100000 in
theorem c_cProcessor_work (l : Launch) (g : Gm) (st : CS) : Mi l yX5_work wq_X5_work rm_cProcessor_work (gD g) vwCl (cty g) (cw g) (cz g) [.ref (gad g 19)] st (cProcessor_work st).1 (cProcessor_work st).2 := by
  intro sz
  refine Met.ofW (cc := cX5_work) (maxL := 11) (ret := (some .int)) (by decide) rfl ?_
  intro p e s m args below meth c s₁ B hml hv
  obtain ⟨rfl, hsz, hP, hK, hD0, hZ⟩ := hv
  subst hsz
  have hl := lv_entry ([.ref (gad g 19)]) (n := 11) (Nat.le_of_ble_eq_true rfl)
  rw [lg_entry_eq]
  generalize (lg_sl ([.ref (gad g 19)]) ++ List.replicate (11 - (lg_sl ([.ref (gad g 19)])).length) Slot.unset).toArray = ls at hl ⊢
  exact k_cProcessor_work g ⟨B.exec, B.bytes, B.returns, hml, findClass_of_methodNamed B.named, atoms_spec (ws := wq_X5_work) B.pre, B.notSynchronized, hK, fun q h => Or.inr h, hZ, cz_ok g⟩ st  _ _ ls ⟨hP, hD0.self, va_S.rf⟩ hl _ rfl
abbrev wq_X5_loaded : List Cond := .code yX5_loaded cX5_loaded 4 (some .int) :: wAll
theorem yd_yX5_loaded : yX5_loaded.cls = RX5 ∧ yX5_loaded.cls ≠ "java/lang/invoke/MethodHandle" ∧ yX5_loaded.cls ≠ "java/lang/invoke/VarHandle" ∧ (parseMethodDescriptor yX5_loaded.desc).map (fun d => d.parameters.length) = some 2 := by decide +kernel
abbrev rm_cProcessor_loaded : Room := { frames := 3, cells := 0, slots := 0, locals := 66 }
def cProcessor_loaded_b9 (st : CS) (x2 : Int32) (y0 : Int32) : CS × Int32 := (if ((cProcessor_is st (4194304 : Int32)) = 0) then (st, (cProcessor_turned y0 ((x2 &&& (3 : Int32)) <<< ((3 : Int32) &&& 31)))) else (st, ((cProcessor_turned y0 ((x2 &&& (3 : Int32)) <<< ((3 : Int32) &&& 31))) &&& (255 : Int32))))
set_option maxHeartbeats 4000000 in
set_option maxRecDepth 100000 in
theorem k_cProcessor_loaded_b9 {p : Program} {l : Launch} {e : Env} {s : State} {m : MethodId} {args : Array Value} {below : List Frame} {meth : Method} {c : Code} {A : Nat → Prop} (g : Gm) (C : cX p s m args meth c A cX5_loaded (some .int) 4 RX5 wq_X5_loaded (gD g) vwCl (cty g) (cz g)) (st : CS) (x2 : Int32) (y0 : Int32) (H : Heap) (locs : List Loc) (ls : Array Slot) (hI : cI (gD g) vwCl (cw g) A s st H locs) (hl : lv_has ls 4 [(0, .ref (gad g 19)), (2, .int x2)]) (X : CS × Int32) (hF : X = cProcessor_loaded_b9 st x2 y0) : W p l e rm_cProcessor_loaded s m args below meth c H locs 0 0 (MQ below (cQi (gD g) vwCl (cty g) (cw g) A X.1 X.2) args s 0 0 A) (F0 m 9 ls [.int y0]) := by
  obtain ⟨hx, hb, hr, hml, hown, hts, hlocks, hK, hA, hZ, hzo⟩ := id C
  unfold cProcessor_loaded_b9 at hF
  refine lv_iload_n hx hb dX5_loaded_9 rfl (lv_at hl 1 rfl) ?_
  refine lv_iconst (v := (3 : Int32)) hx hb dX5_loaded_10 (by decide) ?_
  refine lv_iand hx hb dX5_loaded_11 ?_
  refine lv_iconst (v := (3 : Int32)) hx hb dX5_loaded_12 (by decide) ?_
  refine lv_ishl hx hb dX5_loaded_13 ?_
  refine cx_Si (As := [.int y0, .int ((x2 &&& (3 : Int32)) <<< ((3 : Int32) &&& 31))]) (rest := []) C (c_cProcessor_turned l g st y0 ((x2 &&& (3 : Int32)) <<< ((3 : Int32) &&& 31))) (va_cwS 2 hts (gd_S _ mw433 mw434 mw46 mw435) rfl rfl rfl yd_yX5_turned ⟨Nat.le_of_ble_eq_true rfl, Nat.le_of_ble_eq_true rfl⟩) hI rfl hl.1 rfl (Nat.le_of_ble_eq_true rfl) dX5_loaded_14 (fun H locs hI => ?_)
  refine lv_istore_n (lv' := [(3, .int (cProcessor_turned y0 ((x2 &&& (3 : Int32)) <<< ((3 : Int32) &&& 31)))), (0, .ref (gad g 19)), (2, .int x2)]) hx hb dX5_loaded_17 rfl hl (by decide) rfl (fun ls hl => ?_)
  refine lv_aload_n hx hb dX5_loaded_18 rfl (lv_at hl 1 rfl) ?_
  refine lv_ldc (v := (4194304 : Int32)) hx hb hown (hts _ (List.mem_cons_of_mem _ mw525)) dX5_loaded_19 ?_
  refine cx_Vi (As := [.int (4194304 : Int32)]) (rest := []) C (c_cProcessor_is l g st (4194304 : Int32)) (cwV 1 hts (gd_V _ mw397 mw398 mw399 mw46 mw400) rfl rfl rfl yd_yX5_is ⟨Nat.le_of_ble_eq_true rfl, Nat.le_of_ble_eq_true rfl⟩) (va_recv hK hI.1 (ci := 5) (q0 := 19) rfl rfl) hI rfl hl.1 rfl (Nat.le_of_ble_eq_true rfl) dX5_loaded_21 (fun H locs hI => ?_)
  refine lv_if_eq (tgt := 35) hx hb dX5_loaded_24 (by decide) (fun c_24 => ?_) (fun c_24 => ?_)
  · have hF := hF.trans (if_pos c_24)
    refine lv_iload_n hx hb dX5_loaded_35 rfl (lv_at hl 0 rfl) ?_
    exact cx_iret C hI (congrArg Prod.fst hF) (congrArg Prod.snd hF) dX5_loaded_36
  · have hF := hF.trans (if_neg c_24)
    refine lv_iload_n hx hb dX5_loaded_27 rfl (lv_at hl 0 rfl) ?_
    refine lv_sipush (v := (255 : Int32)) hx hb dX5_loaded_28 (by decide) ?_
    refine lv_iand hx hb dX5_loaded_31 ?_
    refine lv_goto (tgt := 36) hx hb dX5_loaded_32 (by decide) ?_
    exact cx_iret C hI (congrArg Prod.fst hF) (congrArg Prod.snd hF) dX5_loaded_36
def cProcessor_loaded (st : CS) (x1 : Int32) (x2 : Int32) : CS × Int32 := (cProcessor_loaded_b9 (cBus_read st x1 x2).1 x2 (cBus_read st x1 x2).2)
set_option maxHeartbeats 4000000 in
set_option maxRecDepth 100000 in
theorem k_cProcessor_loaded {p : Program} {l : Launch} {e : Env} {s : State} {m : MethodId} {args : Array Value} {below : List Frame} {meth : Method} {c : Code} {A : Nat → Prop} (g : Gm) (C : cX p s m args meth c A cX5_loaded (some .int) 4 RX5 wq_X5_loaded (gD g) vwCl (cty g) (cz g)) (st : CS) (x1 : Int32) (x2 : Int32) (H : Heap) (locs : List Loc) (ls : Array Slot) (hI : cI (gD g) vwCl (cw g) A s st H locs) (hl : lv_has ls 4 [(0, .ref (gad g 19)), (1, .int x1), (2, .int x2)]) (X : CS × Int32) (hF : X = cProcessor_loaded st x1 x2) : W p l e rm_cProcessor_loaded s m args below meth c H locs 0 0 (MQ below (cQi (gD g) vwCl (cty g) (cw g) A X.1 X.2) args s 0 0 A) (F0 m 0 ls []) := by
  obtain ⟨hx, hb, hr, hml, hown, hts, hlocks, hK, hA, hZ, hzo⟩ := id C
  unfold cProcessor_loaded at hF
  refine lv_aload_n hx hb dX5_loaded_0 rfl (lv_at hl 0 rfl) ?_
  refine va_get (D := gD g) (ci := 5) (C := RX5) (T := TX5) (N := 10) (v := .ref (gad g 18)) hx hb hts (fun w h => List.mem_cons_of_mem _ (isX50 w h)) hown hK hI.1 19 rfl rfl 1 (by decide) (hts _ (List.mem_cons_of_mem _ mw113)) (fun _ h9 => h9) rfl dX5_loaded_1 ?_
  refine lv_iload_n hx hb dX5_loaded_4 rfl (lv_at hl 1 rfl) ?_
  refine lv_iload_n hx hb dX5_loaded_5 rfl (lv_at hl 2 rfl) ?_
  refine cx_Vi (As := [.int x1, .int x2]) (rest := []) C (c_cBus_read l g st x1 x2) (cwV 2 hts (gd_V _ mw530 mw531 mw532 mw42 mw533) rfl rfl rfl yd_yX0_read ⟨Nat.le_of_ble_eq_true rfl, Nat.le_of_ble_eq_true rfl⟩) (va_recv hK hI.1 (ci := 0) (q0 := 18) rfl rfl) hI rfl hl.1 rfl (Nat.le_of_ble_eq_true rfl) dX5_loaded_6 (fun H locs hI => ?_)
  exact k_cProcessor_loaded_b9 g C (cBus_read st x1 x2).1 x2 (cBus_read st x1 x2).2 H locs ls hI (lv_sub hl [0, 2] rfl) X hF
set_option maxHeartbeats 4000000 in
set_option maxRecDepth 100000 in
theorem c_cProcessor_loaded (l : Launch) (g : Gm) (st : CS) (x1 : Int32) (x2 : Int32) : Mi l yX5_loaded wq_X5_loaded rm_cProcessor_loaded (gD g) vwCl (cty g) (cw g) (cz g) [.ref (gad g 19), .int x1, .int x2] st (cProcessor_loaded st x1 x2).1 (cProcessor_loaded st x1 x2).2 := by
  intro sz
  refine Met.ofW (cc := cX5_loaded) (maxL := 4) (ret := (some .int)) (by decide) rfl ?_
  intro p e s m args below meth c s₁ B hml hv
  obtain ⟨rfl, hsz, hP, hK, hD0, hZ⟩ := hv
  subst hsz
  have hl := lv_entry ([.ref (gad g 19), .int x1, .int x2]) (n := 4) (Nat.le_of_ble_eq_true rfl)
  rw [lg_entry_eq]
  generalize (lg_sl ([.ref (gad g 19), .int x1, .int x2]) ++ List.replicate (4 - (lg_sl ([.ref (gad g 19), .int x1, .int x2])).length) Slot.unset).toArray = ls at hl ⊢
  exact k_cProcessor_loaded g ⟨B.exec, B.bytes, B.returns, hml, findClass_of_methodNamed B.named, atoms_spec (ws := wq_X5_loaded) B.pre, B.notSynchronized, hK, fun q h => Or.inr h, hZ, cz_ok g⟩ st x1 x2 _ _ ls ⟨hP, hD0.self, va_S.rf⟩ hl _ rfl
abbrev wq_X5_given : List Cond := .code yX5_given cX5_given 2 (some .int) :: wAll
theorem yd_yX5_given : yX5_given.cls = RX5 ∧ yX5_given.cls ≠ "java/lang/invoke/MethodHandle" ∧ yX5_given.cls ≠ "java/lang/invoke/VarHandle" ∧ (parseMethodDescriptor yX5_given.desc).map (fun d => d.parameters.length) = some 1 := by decide +kernel
abbrev rm_cProcessor_given : Room := { frames := 2, cells := 0, slots := 0, locals := 43 }
def cProcessor_given (st : CS) (x1 : Int32) : Int32 := (if (x1 = (15 : Int32)) then (cProcessor_withSigns st (12 : Int32)) else (cRegisters_of st (cRegisters_mode st) x1))
set_option maxHeartbeats 4000000 in
set_option maxRecDepth 100000 in
theorem k_cProcessor_given {p : Program} {l : Launch} {e : Env} {s : State} {m : MethodId} {args : Array Value} {below : List Frame} {meth : Method} {c : Code} {A : Nat → Prop} (g : Gm) (C : cX p s m args meth c A cX5_given (some .int) 2 RX5 wq_X5_given (gD g) vwCl (cty g) (cz g)) (st : CS) (x1 : Int32) (H : Heap) (locs : List Loc) (ls : Array Slot) (hI : cI (gD g) vwCl (cw g) A s st H locs) (hl : lv_has ls 2 [(0, .ref (gad g 19)), (1, .int x1)]) (X : Int32) (hF : X = cProcessor_given st x1) : W p l e rm_cProcessor_given s m args below meth c H locs 0 0 (MQ below (cQi (gD g) vwCl (cty g) (cw g) A st X) args s 0 0 A) (F0 m 0 ls []) := by
  obtain ⟨hx, hb, hr, hml, hown, hts, hlocks, hK, hA, hZ, hzo⟩ := id C
  unfold cProcessor_given at hF
  refine lv_iload_n hx hb dX5_given_0 rfl (lv_at hl 1 rfl) ?_
  refine lv_bipush (v := (15 : Int32)) hx hb dX5_given_1 (by decide) ?_
  refine lv_icmp_ne (tgt := 15) hx hb dX5_given_3 (by decide) (fun c_3 => ?_) (fun c_3 => ?_)
  · have hF := hF.trans (if_neg c_3)
    refine lv_aload_n hx hb dX5_given_15 rfl (lv_at hl 0 rfl) ?_
    refine va_get (D := gD g) (ci := 5) (C := RX5) (T := TX5) (N := 10) (v := .ref (gad g 2)) hx hb hts (fun w h => List.mem_cons_of_mem _ (isX50 w h)) hown hK hI.1 19 rfl rfl 0 (by decide) (hts _ (List.mem_cons_of_mem _ mw112)) (fun _ h9 => h9) rfl dX5_given_16 ?_
    refine lv_aload_n hx hb dX5_given_19 rfl (lv_at hl 0 rfl) ?_
    refine va_get (D := gD g) (ci := 5) (C := RX5) (T := TX5) (N := 10) (v := .ref (gad g 2)) hx hb hts (fun w h => List.mem_cons_of_mem _ (isX50 w h)) hown hK hI.1 19 rfl rfl 0 (by decide) (hts _ (List.mem_cons_of_mem _ mw112)) (fun _ h9 => h9) rfl dX5_given_20 ?_
    refine cx_Vi (As := []) (rest := [.ref (gad g 2)]) C (c_cRegisters_mode l g st ) (cwV 0 hts (gd_V _ mw329 mw330 mw331 mw14 mw332) rfl rfl rfl yd_yX6_mode ⟨Nat.le_of_ble_eq_true rfl, Nat.le_of_ble_eq_true rfl⟩) (va_recv hK hI.1 (ci := 6) (q0 := 2) rfl rfl) hI rfl hl.1 rfl (Nat.le_of_ble_eq_true rfl) dX5_given_23 (fun H locs hI => ?_)
    refine lv_iload_n hx hb dX5_given_26 rfl (lv_at hl 1 rfl) ?_
    refine cx_Vi (As := [.int (cRegisters_mode st), .int x1]) (rest := []) C (c_cRegisters_of l g st (cRegisters_mode st) x1) (cwV 2 hts (gd_V _ mw448 mw449 mw450 mw14 mw451) rfl rfl rfl yd_yX6_of ⟨Nat.le_of_ble_eq_true rfl, Nat.le_of_ble_eq_true rfl⟩) (va_recv hK hI.1 (ci := 6) (q0 := 2) rfl rfl) hI rfl hl.1 rfl (Nat.le_of_ble_eq_true rfl) dX5_given_27 (fun H locs hI => ?_)
    exact cx_iret C hI rfl hF dX5_given_30
  · have hF := hF.trans (if_pos c_3)
    refine lv_aload_n hx hb dX5_given_6 rfl (lv_at hl 0 rfl) ?_
    refine lv_bipush (v := (12 : Int32)) hx hb dX5_given_7 (by decide) ?_
    refine cx_Vi (As := [.int (12 : Int32)]) (rest := []) C (c_cProcessor_withSigns l g st (12 : Int32)) (cwV 1 hts (gd_V _ mw406 mw407 mw408 mw46 mw409) rfl rfl rfl yd_yX5_withSigns ⟨Nat.le_of_ble_eq_true rfl, Nat.le_of_ble_eq_true rfl⟩) (va_recv hK hI.1 (ci := 5) (q0 := 19) rfl rfl) hI rfl hl.1 rfl (Nat.le_of_ble_eq_true rfl) dX5_given_9 (fun H locs hI => ?_)
    refine lv_goto (tgt := 30) hx hb dX5_given_12 (by decide) ?_
    exact cx_iret C hI rfl hF dX5_given_30
set_option maxHeartbeats 4000000 in
set_option maxRecDepth 100000 in
theorem c_cProcessor_given (l : Launch) (g : Gm) (st : CS) (x1 : Int32) : Mi l yX5_given wq_X5_given rm_cProcessor_given (gD g) vwCl (cty g) (cw g) (cz g) [.ref (gad g 19), .int x1] st st (cProcessor_given st x1) := by
  intro sz
  refine Met.ofW (cc := cX5_given) (maxL := 2) (ret := (some .int)) (by decide) rfl ?_
  intro p e s m args below meth c s₁ B hml hv
  obtain ⟨rfl, hsz, hP, hK, hD0, hZ⟩ := hv
  subst hsz
  have hl := lv_entry ([.ref (gad g 19), .int x1]) (n := 2) (Nat.le_of_ble_eq_true rfl)
  rw [lg_entry_eq]
  generalize (lg_sl ([.ref (gad g 19), .int x1]) ++ List.replicate (2 - (lg_sl ([.ref (gad g 19), .int x1])).length) Slot.unset).toArray = ls at hl ⊢
  exact k_cProcessor_given g ⟨B.exec, B.bytes, B.returns, hml, findClass_of_methodNamed B.named, atoms_spec (ws := wq_X5_given) B.pre, B.notSynchronized, hK, fun q h => Or.inr h, hZ, cz_ok g⟩ st x1 _ _ ls ⟨hP, hD0.self, va_S.rf⟩ hl _ rfl
abbrev wq_X5_transferOne : List Cond := .code yX5_transferOne cX5_transferOne 11 (some .int) :: wAll
theorem yd_yX5_transferOne : yX5_transferOne.cls = RX5 ∧ yX5_transferOne.cls ≠ "java/lang/invoke/MethodHandle" ∧ yX5_transferOne.cls ≠ "java/lang/invoke/VarHandle" ∧ (parseMethodDescriptor yX5_transferOne.desc).map (fun d => d.parameters.length) = some 0 := by decide +kernel
abbrev rm_cProcessor_transferOne : Room := { frames := 4, cells := 0, slots := 0, locals := 93 }
def cProcessor_transferOne_b328 (st : CS) : CS × Int32 := (st, (4 : Int32))
set_option maxHeartbeats 4000000 in
set_option maxRecDepth 100000 in
theorem k_cProcessor_transferOne_b328 {p : Program} {l : Launch} {e : Env} {s : State} {m : MethodId} {args : Array Value} {below : List Frame} {meth : Method} {c : Code} {A : Nat → Prop} (g : Gm) (C : cX p s m args meth c A cX5_transferOne (some .int) 11 RX5 wq_X5_transferOne (gD g) vwCl (cty g) (cz g)) (st : CS) (H : Heap) (locs : List Loc) (ls : Array Slot) (hI : cI (gD g) vwCl (cw g) A s st H locs) (hl : lv_has ls 11 [(0, .ref (gad g 19))]) (X : CS × Int32) (hF : X = cProcessor_transferOne_b328 st ) : W p l e rm_cProcessor_transferOne s m args below meth c H locs 0 0 (MQ below (cQi (gD g) vwCl (cty g) (cw g) A X.1 X.2) args s 0 0 A) (F0 m 328 ls []) := by
  obtain ⟨hx, hb, hr, hml, hown, hts, hlocks, hK, hA, hZ, hzo⟩ := id C
  unfold cProcessor_transferOne_b328 at hF
  refine lv_goto (tgt := 344) hx hb dX5_transferOne_328 (by decide) ?_
  refine lv_iconst (v := (4 : Int32)) hx hb dX5_transferOne_344 (by decide) ?_
  exact cx_iret C hI (congrArg Prod.fst hF) (congrArg Prod.snd hF) dX5_transferOne_345
def cProcessor_transferOne_b292 (st : CS) (x9 : Int32) : CS × Int32 := (if (x9 = (15 : Int32)) then (st, (7 : Int32)) else (st, (4 : Int32)))
set_option maxHeartbeats 4000000 in
set_option maxRecDepth 100000 in
theorem k_cProcessor_transferOne_b292 {p : Program} {l : Launch} {e : Env} {s : State} {m : MethodId} {args : Array Value} {below : List Frame} {meth : Method} {c : Code} {A : Nat → Prop} (g : Gm) (C : cX p s m args meth c A cX5_transferOne (some .int) 11 RX5 wq_X5_transferOne (gD g) vwCl (cty g) (cz g)) (st : CS) (x9 : Int32) (H : Heap) (locs : List Loc) (ls : Array Slot) (hI : cI (gD g) vwCl (cw g) A s st H locs) (hl : lv_has ls 11 [(0, .ref (gad g 19)), (9, .int x9)]) (X : CS × Int32) (hF : X = cProcessor_transferOne_b292 st x9) : W p l e rm_cProcessor_transferOne s m args below meth c H locs 0 0 (MQ below (cQi (gD g) vwCl (cty g) (cw g) A X.1 X.2) args s 0 0 A) (F0 m 292 ls []) := by
  obtain ⟨hx, hb, hr, hml, hown, hts, hlocks, hK, hA, hZ, hzo⟩ := id C
  unfold cProcessor_transferOne_b292 at hF
  refine lv_iload hx hb dX5_transferOne_292 (lv_at hl 1 rfl) ?_
  refine lv_bipush (v := (15 : Int32)) hx hb dX5_transferOne_294 (by decide) ?_
  refine lv_icmp_ne (tgt := 304) hx hb dX5_transferOne_296 (by decide) (fun c_296 => ?_) (fun c_296 => ?_)
  · have hF := hF.trans (if_neg c_296)
    refine lv_iconst (v := (4 : Int32)) hx hb dX5_transferOne_304 (by decide) ?_
    exact cx_iret C hI (congrArg Prod.fst hF) (congrArg Prod.snd hF) dX5_transferOne_305
  · have hF := hF.trans (if_pos c_296)
    refine lv_bipush (v := (7 : Int32)) hx hb dX5_transferOne_299 (by decide) ?_
    refine lv_goto (tgt := 305) hx hb dX5_transferOne_301 (by decide) ?_
    exact cx_iret C hI (congrArg Prod.fst hF) (congrArg Prod.snd hF) dX5_transferOne_305
def cProcessor_transferOne_b275 (st : CS) (x5 : Int32) (x7 : Int32) (x9 : Int32) (x10 : Int32) : CS × Int32 := (if ((cProcessor_is st (1048576 : Int32)) = 0) then (if ((cProcessor_is st (4194304 : Int32)) = 0) then ((cBus_write st x7 x5 x10), (4 : Int32)) else (cProcessor_transferOne_b328 (cBus_writeByte st x7 x5 x10) )) else (cProcessor_transferOne_b292 (cProcessor_becomeOrGoTo st x9 x10) x9))
set_option maxHeartbeats 4000000 in
set_option maxRecDepth 100000 in
theorem k_cProcessor_transferOne_b275 {p : Program} {l : Launch} {e : Env} {s : State} {m : MethodId} {args : Array Value} {below : List Frame} {meth : Method} {c : Code} {A : Nat → Prop} (g : Gm) (C : cX p s m args meth c A cX5_transferOne (some .int) 11 RX5 wq_X5_transferOne (gD g) vwCl (cty g) (cz g)) (st : CS) (x5 : Int32) (x7 : Int32) (x9 : Int32) (x10 : Int32) (H : Heap) (locs : List Loc) (ls : Array Slot) (hI : cI (gD g) vwCl (cw g) A s st H locs) (hl : lv_has ls 11 [(0, .ref (gad g 19)), (5, .int x5), (7, .int x7), (9, .int x9), (10, .int x10)]) (X : CS × Int32) (hF : X = cProcessor_transferOne_b275 st x5 x7 x9 x10) : W p l e rm_cProcessor_transferOne s m args below meth c H locs 0 0 (MQ below (cQi (gD g) vwCl (cty g) (cw g) A X.1 X.2) args s 0 0 A) (F0 m 275 ls []) := by
  obtain ⟨hx, hb, hr, hml, hown, hts, hlocks, hK, hA, hZ, hzo⟩ := id C
  unfold cProcessor_transferOne_b275 at hF
  refine lv_aload_n hx hb dX5_transferOne_275 rfl (lv_at hl 0 rfl) ?_
  refine lv_ldc (v := (1048576 : Int32)) hx hb hown (hts _ (List.mem_cons_of_mem _ mw390)) dX5_transferOne_276 ?_
  refine cx_Vi (As := [.int (1048576 : Int32)]) (rest := []) C (c_cProcessor_is l g st (1048576 : Int32)) (cwV 1 hts (gd_V _ mw397 mw398 mw399 mw46 mw400) rfl rfl rfl yd_yX5_is ⟨Nat.le_of_ble_eq_true rfl, Nat.le_of_ble_eq_true rfl⟩) (va_recv hK hI.1 (ci := 5) (q0 := 19) rfl rfl) hI rfl hl.1 rfl (Nat.le_of_ble_eq_true rfl) dX5_transferOne_278 (fun H locs hI => ?_)
  refine lv_if_eq (tgt := 306) hx hb dX5_transferOne_281 (by decide) (fun c_281 => ?_) (fun c_281 => ?_)
  · have hF := hF.trans (if_pos c_281)
    refine lv_aload_n hx hb dX5_transferOne_306 rfl (lv_at hl 0 rfl) ?_
    refine lv_ldc (v := (4194304 : Int32)) hx hb hown (hts _ (List.mem_cons_of_mem _ mw525)) dX5_transferOne_307 ?_
    refine cx_Vi (As := [.int (4194304 : Int32)]) (rest := []) C (c_cProcessor_is l g st (4194304 : Int32)) (cwV 1 hts (gd_V _ mw397 mw398 mw399 mw46 mw400) rfl rfl rfl yd_yX5_is ⟨Nat.le_of_ble_eq_true rfl, Nat.le_of_ble_eq_true rfl⟩) (va_recv hK hI.1 (ci := 5) (q0 := 19) rfl rfl) hI rfl hl.1 rfl (Nat.le_of_ble_eq_true rfl) dX5_transferOne_309 (fun H locs hI => ?_)
    refine lv_if_eq (tgt := 331) hx hb dX5_transferOne_312 (by decide) (fun c_312 => ?_) (fun c_312 => ?_)
    · have hF := hF.trans (if_pos c_312)
      refine lv_aload_n hx hb dX5_transferOne_331 rfl (lv_at hl 0 rfl) ?_
      refine va_get (D := gD g) (ci := 5) (C := RX5) (T := TX5) (N := 10) (v := .ref (gad g 18)) hx hb hts (fun w h => List.mem_cons_of_mem _ (isX50 w h)) hown hK hI.1 19 rfl rfl 1 (by decide) (hts _ (List.mem_cons_of_mem _ mw113)) (fun _ h9 => h9) rfl dX5_transferOne_332 ?_
      refine lv_iload hx hb dX5_transferOne_335 (lv_at hl 2 rfl) ?_
      refine lv_iload hx hb dX5_transferOne_337 (lv_at hl 1 rfl) ?_
      refine lv_iload hx hb dX5_transferOne_339 (lv_at hl 4 rfl) ?_
      refine cx_Vv (As := [.int x7, .int x5, .int x10]) (rest := []) C (c_cBus_write l g st x7 x5 x10) (cwV 3 hts (gd_V _ mw640 mw589 mw590 mw42 mw591) rfl rfl rfl yd_yX0_write ⟨Nat.le_of_ble_eq_true rfl, Nat.le_of_ble_eq_true rfl⟩) (va_recv hK hI.1 (ci := 0) (q0 := 18) rfl rfl) hI rfl hl.1 rfl (Nat.le_of_ble_eq_true rfl) dX5_transferOne_341 (fun H locs hI => ?_)
      refine lv_iconst (v := (4 : Int32)) hx hb dX5_transferOne_344 (by decide) ?_
      exact cx_iret C hI (congrArg Prod.fst hF) (congrArg Prod.snd hF) dX5_transferOne_345
    · have hF := hF.trans (if_neg c_312)
      refine lv_aload_n hx hb dX5_transferOne_315 rfl (lv_at hl 0 rfl) ?_
      refine va_get (D := gD g) (ci := 5) (C := RX5) (T := TX5) (N := 10) (v := .ref (gad g 18)) hx hb hts (fun w h => List.mem_cons_of_mem _ (isX50 w h)) hown hK hI.1 19 rfl rfl 1 (by decide) (hts _ (List.mem_cons_of_mem _ mw113)) (fun _ h9 => h9) rfl dX5_transferOne_316 ?_
      refine lv_iload hx hb dX5_transferOne_319 (lv_at hl 2 rfl) ?_
      refine lv_iload hx hb dX5_transferOne_321 (lv_at hl 1 rfl) ?_
      refine lv_iload hx hb dX5_transferOne_323 (lv_at hl 4 rfl) ?_
      refine cx_Vv (As := [.int x7, .int x5, .int x10]) (rest := []) C (c_cBus_writeByte l g st x7 x5 x10) (cwV 3 hts (gd_V _ mw583 mw584 mw585 mw42 mw586) rfl rfl rfl yd_yX0_writeByte ⟨Nat.le_of_ble_eq_true rfl, Nat.le_of_ble_eq_true rfl⟩) (va_recv hK hI.1 (ci := 0) (q0 := 18) rfl rfl) hI rfl hl.1 rfl (Nat.le_of_ble_eq_true rfl) dX5_transferOne_325 (fun H locs hI => ?_)
      exact k_cProcessor_transferOne_b328 g C (cBus_writeByte st x7 x5 x10)  H locs ls hI (lv_sub hl [0] rfl) X hF
  · have hF := hF.trans (if_neg c_281)
    refine lv_aload_n hx hb dX5_transferOne_284 rfl (lv_at hl 0 rfl) ?_
    refine lv_iload hx hb dX5_transferOne_285 (lv_at hl 3 rfl) ?_
    refine lv_iload hx hb dX5_transferOne_287 (lv_at hl 4 rfl) ?_
    refine cx_Vv (As := [.int x9, .int x10]) (rest := []) C (c_cProcessor_becomeOrGoTo l g st x9 x10) (cwV 2 hts (gd_V _ mw473 mw474 mw475 mw46 mw476) rfl rfl rfl yd_yX5_becomeOrGoTo ⟨Nat.le_of_ble_eq_true rfl, Nat.le_of_ble_eq_true rfl⟩) (va_recv hK hI.1 (ci := 5) (q0 := 19) rfl rfl) hI rfl hl.1 rfl (Nat.le_of_ble_eq_true rfl) dX5_transferOne_289 (fun H locs hI => ?_)
    exact k_cProcessor_transferOne_b292 g C (cProcessor_becomeOrGoTo st x9 x10) x9 H locs ls hI (lv_sub hl [0, 3] rfl) X hF
def cProcessor_transferOne_b261 (st : CS) (x1 : Int32) (x4 : Int32) (x5 : Int32) (x7 : Int32) (x8 : Int32) (x9 : Int32) (y0 : Int32) : CS × Int32 := (if (x8 = 0) then (cProcessor_transferOne_b275 st x5 x7 x9 y0) else (cProcessor_transferOne_b275 (cProcessor_become st x1 x4) x5 x7 x9 y0))
set_option maxHeartbeats 4000000 in
set_option maxRecDepth 100000 in
theorem k_cProcessor_transferOne_b261 {p : Program} {l : Launch} {e : Env} {s : State} {m : MethodId} {args : Array Value} {below : List Frame} {meth : Method} {c : Code} {A : Nat → Prop} (g : Gm) (C : cX p s m args meth c A cX5_transferOne (some .int) 11 RX5 wq_X5_transferOne (gD g) vwCl (cty g) (cz g)) (st : CS) (x1 : Int32) (x4 : Int32) (x5 : Int32) (x7 : Int32) (x8 : Int32) (x9 : Int32) (y0 : Int32) (H : Heap) (locs : List Loc) (ls : Array Slot) (hI : cI (gD g) vwCl (cw g) A s st H locs) (hl : lv_has ls 11 [(0, .ref (gad g 19)), (1, .int x1), (4, .int x4), (5, .int x5), (7, .int x7), (8, .int x8), (9, .int x9)]) (X : CS × Int32) (hF : X = cProcessor_transferOne_b261 st x1 x4 x5 x7 x8 x9 y0) : W p l e rm_cProcessor_transferOne s m args below meth c H locs 0 0 (MQ below (cQi (gD g) vwCl (cty g) (cw g) A X.1 X.2) args s 0 0 A) (F0 m 261 ls [.int y0]) := by
  obtain ⟨hx, hb, hr, hml, hown, hts, hlocks, hK, hA, hZ, hzo⟩ := id C
  unfold cProcessor_transferOne_b261 at hF
  refine lv_istore (lv' := [(10, .int y0), (0, .ref (gad g 19)), (1, .int x1), (4, .int x4), (5, .int x5), (7, .int x7), (8, .int x8), (9, .int x9)]) hx hb dX5_transferOne_261 hl (by decide) rfl (fun ls hl => ?_)
  refine lv_iload hx hb dX5_transferOne_263 (lv_at hl 6 rfl) ?_
  refine lv_if_eq (tgt := 275) hx hb dX5_transferOne_265 (by decide) (fun c_265 => ?_) (fun c_265 => ?_)
  · have hF := hF.trans (if_pos c_265)
    exact k_cProcessor_transferOne_b275 g C st x5 x7 x9 y0 H locs ls hI (lv_sub hl [1, 4, 5, 7, 0] rfl) X hF
  · have hF := hF.trans (if_neg c_265)
    refine lv_aload_n hx hb dX5_transferOne_268 rfl (lv_at hl 1 rfl) ?_
    refine lv_iload_n hx hb dX5_transferOne_269 rfl (lv_at hl 2 rfl) ?_
    refine lv_iload hx hb dX5_transferOne_270 (lv_at hl 3 rfl) ?_
    refine cx_Vv (As := [.int x1, .int x4]) (rest := []) C (c_cProcessor_become l g st x1 x4) (cwV 2 hts (gd_V _ mw477 mw478 mw479 mw46 mw480) rfl rfl rfl yd_yX5_become ⟨Nat.le_of_ble_eq_true rfl, Nat.le_of_ble_eq_true rfl⟩) (va_recv hK hI.1 (ci := 5) (q0 := 19) rfl rfl) hI rfl hl.1 rfl (Nat.le_of_ble_eq_true rfl) dX5_transferOne_272 (fun H locs hI => ?_)
    exact k_cProcessor_transferOne_b275 g C (cProcessor_become st x1 x4) x5 x7 x9 y0 H locs ls hI (lv_sub hl [1, 4, 5, 7, 0] rfl) X hF
def cProcessor_transferOne_b252 (st : CS) (x1 : Int32) (x4 : Int32) (x5 : Int32) (x7 : Int32) (x8 : Int32) (x9 : Int32) (y0 : Int32) : CS × Int32 := (cProcessor_transferOne_b261 st x1 x4 x5 x7 x8 x9 y0)
set_option maxHeartbeats 4000000 in
set_option maxRecDepth 100000 in
theorem k_cProcessor_transferOne_b252 {p : Program} {l : Launch} {e : Env} {s : State} {m : MethodId} {args : Array Value} {below : List Frame} {meth : Method} {c : Code} {A : Nat → Prop} (g : Gm) (C : cX p s m args meth c A cX5_transferOne (some .int) 11 RX5 wq_X5_transferOne (gD g) vwCl (cty g) (cz g)) (st : CS) (x1 : Int32) (x4 : Int32) (x5 : Int32) (x7 : Int32) (x8 : Int32) (x9 : Int32) (y0 : Int32) (H : Heap) (locs : List Loc) (ls : Array Slot) (hI : cI (gD g) vwCl (cw g) A s st H locs) (hl : lv_has ls 11 [(0, .ref (gad g 19)), (1, .int x1), (4, .int x4), (5, .int x5), (7, .int x7), (8, .int x8), (9, .int x9)]) (X : CS × Int32) (hF : X = cProcessor_transferOne_b252 st x1 x4 x5 x7 x8 x9 y0) : W p l e rm_cProcessor_transferOne s m args below meth c H locs 0 0 (MQ below (cQi (gD g) vwCl (cty g) (cw g) A X.1 X.2) args s 0 0 A) (F0 m 252 ls [.int y0]) := by
  obtain ⟨hx, hb, hr, hml, hown, hts, hlocks, hK, hA, hZ, hzo⟩ := id C
  unfold cProcessor_transferOne_b252 at hF
  refine lv_goto (tgt := 261) hx hb dX5_transferOne_252 (by decide) ?_
  exact k_cProcessor_transferOne_b261 g C st x1 x4 x5 x7 x8 x9 y0 H locs ls hI (lv_sub hl [0, 1, 2, 3, 4, 5, 6] rfl) X hF
def cProcessor_transferOne_b225 (st : CS) (x1 : Int32) (x4 : Int32) (x5 : Int32) (x7 : Int32) (y0 : Int32) : CS × Int32 := (if ((cProcessor_is st (1048576 : Int32)) = 0) then (cProcessor_transferOne_b261 st x1 x4 x5 x7 y0 (cProcessor_part st (12 : Int32)) (cProcessor_given st (cProcessor_part st (12 : Int32)))) else (cProcessor_transferOne_b252 (cProcessor_loaded st x7 x5).1 x1 x4 x5 x7 y0 (cProcessor_part st (12 : Int32)) (cProcessor_loaded st x7 x5).2))
set_option maxHeartbeats 4000000 in
set_option maxRecDepth 100000 in
theorem k_cProcessor_transferOne_b225 {p : Program} {l : Launch} {e : Env} {s : State} {m : MethodId} {args : Array Value} {below : List Frame} {meth : Method} {c : Code} {A : Nat → Prop} (g : Gm) (C : cX p s m args meth c A cX5_transferOne (some .int) 11 RX5 wq_X5_transferOne (gD g) vwCl (cty g) (cz g)) (st : CS) (x1 : Int32) (x4 : Int32) (x5 : Int32) (x7 : Int32) (y0 : Int32) (H : Heap) (locs : List Loc) (ls : Array Slot) (hI : cI (gD g) vwCl (cw g) A s st H locs) (hl : lv_has ls 11 [(0, .ref (gad g 19)), (1, .int x1), (4, .int x4), (5, .int x5), (7, .int x7)]) (X : CS × Int32) (hF : X = cProcessor_transferOne_b225 st x1 x4 x5 x7 y0) : W p l e rm_cProcessor_transferOne s m args below meth c H locs 0 0 (MQ below (cQi (gD g) vwCl (cty g) (cw g) A X.1 X.2) args s 0 0 A) (F0 m 225 ls [.int y0]) := by
  obtain ⟨hx, hb, hr, hml, hown, hts, hlocks, hK, hA, hZ, hzo⟩ := id C
  unfold cProcessor_transferOne_b225 at hF
  refine lv_istore (lv' := [(8, .int y0), (0, .ref (gad g 19)), (1, .int x1), (4, .int x4), (5, .int x5), (7, .int x7)]) hx hb dX5_transferOne_225 hl (by decide) rfl (fun ls hl => ?_)
  refine lv_aload_n hx hb dX5_transferOne_227 rfl (lv_at hl 1 rfl) ?_
  refine lv_bipush (v := (12 : Int32)) hx hb dX5_transferOne_228 (by decide) ?_
  refine cx_Vi (As := [.int (12 : Int32)]) (rest := []) C (c_cProcessor_part l g st (12 : Int32)) (cwV 1 hts (gd_V _ mw393 mw394 mw395 mw46 mw396) rfl rfl rfl yd_yX5_part ⟨Nat.le_of_ble_eq_true rfl, Nat.le_of_ble_eq_true rfl⟩) (va_recv hK hI.1 (ci := 5) (q0 := 19) rfl rfl) hI rfl hl.1 rfl (Nat.le_of_ble_eq_true rfl) dX5_transferOne_230 (fun H locs hI => ?_)
  refine lv_istore (lv' := [(9, .int (cProcessor_part st (12 : Int32))), (8, .int y0), (0, .ref (gad g 19)), (1, .int x1), (4, .int x4), (5, .int x5), (7, .int x7)]) hx hb dX5_transferOne_233 hl (by decide) rfl (fun ls hl => ?_)
  refine lv_aload_n hx hb dX5_transferOne_235 rfl (lv_at hl 2 rfl) ?_
  refine lv_ldc (v := (1048576 : Int32)) hx hb hown (hts _ (List.mem_cons_of_mem _ mw390)) dX5_transferOne_236 ?_
  refine cx_Vi (As := [.int (1048576 : Int32)]) (rest := []) C (c_cProcessor_is l g st (1048576 : Int32)) (cwV 1 hts (gd_V _ mw397 mw398 mw399 mw46 mw400) rfl rfl rfl yd_yX5_is ⟨Nat.le_of_ble_eq_true rfl, Nat.le_of_ble_eq_true rfl⟩) (va_recv hK hI.1 (ci := 5) (q0 := 19) rfl rfl) hI rfl hl.1 rfl (Nat.le_of_ble_eq_true rfl) dX5_transferOne_238 (fun H locs hI => ?_)
  refine lv_if_eq (tgt := 255) hx hb dX5_transferOne_241 (by decide) (fun c_241 => ?_) (fun c_241 => ?_)
  · have hF := hF.trans (if_pos c_241)
    refine lv_aload_n hx hb dX5_transferOne_255 rfl (lv_at hl 2 rfl) ?_
    refine lv_iload hx hb dX5_transferOne_256 (lv_at hl 0 rfl) ?_
    refine cx_Vi (As := [.int (cProcessor_part st (12 : Int32))]) (rest := []) C (c_cProcessor_given l g st (cProcessor_part st (12 : Int32))) (cwV 1 hts (gd_V _ mw579 mw580 mw581 mw46 mw582) rfl rfl rfl yd_yX5_given ⟨Nat.le_of_ble_eq_true rfl, Nat.le_of_ble_eq_true rfl⟩) (va_recv hK hI.1 (ci := 5) (q0 := 19) rfl rfl) hI rfl hl.1 rfl (Nat.le_of_ble_eq_true rfl) dX5_transferOne_258 (fun H locs hI => ?_)
    exact k_cProcessor_transferOne_b261 g C st x1 x4 x5 x7 y0 (cProcessor_part st (12 : Int32)) (cProcessor_given st (cProcessor_part st (12 : Int32))) H locs ls hI (lv_sub hl [2, 3, 4, 5, 6, 1, 0] rfl) X hF
  · have hF := hF.trans (if_neg c_241)
    refine lv_aload_n hx hb dX5_transferOne_244 rfl (lv_at hl 2 rfl) ?_
    refine lv_iload hx hb dX5_transferOne_245 (lv_at hl 6 rfl) ?_
    refine lv_iload hx hb dX5_transferOne_247 (lv_at hl 5 rfl) ?_
    refine cx_Vi (As := [.int x7, .int x5]) (rest := []) C (c_cProcessor_loaded l g st x7 x5) (cwV 2 hts (gd_V _ mw526 mw527 mw528 mw46 mw529) rfl rfl rfl yd_yX5_loaded ⟨Nat.le_of_ble_eq_true rfl, Nat.le_of_ble_eq_true rfl⟩) (va_recv hK hI.1 (ci := 5) (q0 := 19) rfl rfl) hI rfl hl.1 rfl (Nat.le_of_ble_eq_true rfl) dX5_transferOne_249 (fun H locs hI => ?_)
    exact k_cProcessor_transferOne_b252 g C (cProcessor_loaded st x7 x5).1 x1 x4 x5 x7 y0 (cProcessor_part st (12 : Int32)) (cProcessor_loaded st x7 x5).2 H locs ls hI (lv_sub hl [2, 3, 4, 5, 6, 1, 0] rfl) X hF
def cProcessor_transferOne_b224 (st : CS) (x1 : Int32) (x4 : Int32) (x5 : Int32) (x7 : Int32) : CS × Int32 := (cProcessor_transferOne_b225 st x1 x4 x5 x7 (0 : Int32))
set_option maxHeartbeats 4000000 in
set_option maxRecDepth 100000 in
theorem k_cProcessor_transferOne_b224 {p : Program} {l : Launch} {e : Env} {s : State} {m : MethodId} {args : Array Value} {below : List Frame} {meth : Method} {c : Code} {A : Nat → Prop} (g : Gm) (C : cX p s m args meth c A cX5_transferOne (some .int) 11 RX5 wq_X5_transferOne (gD g) vwCl (cty g) (cz g)) (st : CS) (x1 : Int32) (x4 : Int32) (x5 : Int32) (x7 : Int32) (H : Heap) (locs : List Loc) (ls : Array Slot) (hI : cI (gD g) vwCl (cw g) A s st H locs) (hl : lv_has ls 11 [(0, .ref (gad g 19)), (1, .int x1), (4, .int x4), (5, .int x5), (7, .int x7)]) (X : CS × Int32) (hF : X = cProcessor_transferOne_b224 st x1 x4 x5 x7) : W p l e rm_cProcessor_transferOne s m args below meth c H locs 0 0 (MQ below (cQi (gD g) vwCl (cty g) (cw g) A X.1 X.2) args s 0 0 A) (F0 m 224 ls []) := by
  obtain ⟨hx, hb, hr, hml, hown, hts, hlocks, hK, hA, hZ, hzo⟩ := id C
  unfold cProcessor_transferOne_b224 at hF
  refine lv_iconst (v := (0 : Int32)) hx hb dX5_transferOne_224 (by decide) ?_
  exact k_cProcessor_transferOne_b225 g C st x1 x4 x5 x7 (0 : Int32) H locs ls hI (lv_sub hl [0, 1, 2, 3, 4] rfl) X hF
def cProcessor_transferOne_b214 (st : CS) (x1 : Int32) (x4 : Int32) (x5 : Int32) (x7 : Int32) : CS × Int32 := (if (x1 = (15 : Int32)) then (cProcessor_transferOne_b224 st x1 x4 x5 x7) else (cProcessor_transferOne_b225 st x1 x4 x5 x7 (1 : Int32)))
set_option maxHeartbeats 4000000 in
set_option maxRecDepth 100000 in
theorem k_cProcessor_transferOne_b214 {p : Program} {l : Launch} {e : Env} {s : State} {m : MethodId} {args : Array Value} {below : List Frame} {meth : Method} {c : Code} {A : Nat → Prop} (g : Gm) (C : cX p s m args meth c A cX5_transferOne (some .int) 11 RX5 wq_X5_transferOne (gD g) vwCl (cty g) (cz g)) (st : CS) (x1 : Int32) (x4 : Int32) (x5 : Int32) (x7 : Int32) (H : Heap) (locs : List Loc) (ls : Array Slot) (hI : cI (gD g) vwCl (cw g) A s st H locs) (hl : lv_has ls 11 [(0, .ref (gad g 19)), (1, .int x1), (4, .int x4), (5, .int x5), (7, .int x7)]) (X : CS × Int32) (hF : X = cProcessor_transferOne_b214 st x1 x4 x5 x7) : W p l e rm_cProcessor_transferOne s m args below meth c H locs 0 0 (MQ below (cQi (gD g) vwCl (cty g) (cw g) A X.1 X.2) args s 0 0 A) (F0 m 214 ls []) := by
  obtain ⟨hx, hb, hr, hml, hown, hts, hlocks, hK, hA, hZ, hzo⟩ := id C
  unfold cProcessor_transferOne_b214 at hF
  refine lv_iload_n hx hb dX5_transferOne_214 rfl (lv_at hl 1 rfl) ?_
  refine lv_bipush (v := (15 : Int32)) hx hb dX5_transferOne_215 (by decide) ?_
  refine lv_icmp_eq (tgt := 224) hx hb dX5_transferOne_217 (by decide) (fun c_217 => ?_) (fun c_217 => ?_)
  · have hF := hF.trans (if_pos c_217)
    exact k_cProcessor_transferOne_b224 g C st x1 x4 x5 x7 H locs ls hI (lv_sub hl [0, 1, 2, 3, 4] rfl) X hF
  · have hF := hF.trans (if_neg c_217)
    refine lv_iconst (v := (1 : Int32)) hx hb dX5_transferOne_220 (by decide) ?_
    refine lv_goto (tgt := 225) hx hb dX5_transferOne_221 (by decide) ?_
    exact k_cProcessor_transferOne_b225 g C st x1 x4 x5 x7 (1 : Int32) H locs ls hI (lv_sub hl [0, 1, 2, 3, 4] rfl) X hF
def cProcessor_transferOne_b179 (st : CS) (x1 : Int32) (x4 : Int32) (x5 : Int32) (y2 : Int32) (y1 : Int32) (y0 : Int32) : CS × Int32 := (if ((cBus_find st y2 y1 y0) = (-1 : Int32)) then ((cProcessor_take st (3 : Int32)).1, (cProcessor_take st (3 : Int32)).2) else (if ((cProcessor_is st (16777216 : Int32)) = 0) then (cProcessor_transferOne_b214 st x1 x4 x5 (cBus_find st y2 y1 y0)) else (if ((cProcessor_is st (2097152 : Int32)) = 0) then (cProcessor_transferOne_b224 st x1 x4 x5 (cBus_find st y2 y1 y0)) else (cProcessor_transferOne_b214 st x1 x4 x5 (cBus_find st y2 y1 y0)))))
set_option maxHeartbeats 4000000 in
set_option maxRecDepth 100000 in
theorem k_cProcessor_transferOne_b179 {p : Program} {l : Launch} {e : Env} {s : State} {m : MethodId} {args : Array Value} {below : List Frame} {meth : Method} {c : Code} {A : Nat → Prop} (g : Gm) (C : cX p s m args meth c A cX5_transferOne (some .int) 11 RX5 wq_X5_transferOne (gD g) vwCl (cty g) (cz g)) (st : CS) (x1 : Int32) (x4 : Int32) (x5 : Int32) (y2 : Int32) (y1 : Int32) (y0 : Int32) (H : Heap) (locs : List Loc) (ls : Array Slot) (hI : cI (gD g) vwCl (cw g) A s st H locs) (hl : lv_has ls 11 [(0, .ref (gad g 19)), (1, .int x1), (4, .int x4), (5, .int x5)]) (X : CS × Int32) (hF : X = cProcessor_transferOne_b179 st x1 x4 x5 y2 y1 y0) : W p l e rm_cProcessor_transferOne s m args below meth c H locs 0 0 (MQ below (cQi (gD g) vwCl (cty g) (cw g) A X.1 X.2) args s 0 0 A) (F0 m 179 ls [.int y0, .int y1, .int y2, .ref (gad g 18)]) := by
  obtain ⟨hx, hb, hr, hml, hown, hts, hlocks, hK, hA, hZ, hzo⟩ := id C
  unfold cProcessor_transferOne_b179 at hF
  refine cx_Vi (As := [.int y2, .int y1, .int y0]) (rest := []) C (c_cBus_find l g st y2 y1 y0) (cwV 3 hts (gd_V _ mw333 mw334 mw335 mw42 mw336) rfl rfl rfl yd_yX0_find ⟨Nat.le_of_ble_eq_true rfl, Nat.le_of_ble_eq_true rfl⟩) (va_recv hK hI.1 (ci := 0) (q0 := 18) rfl rfl) hI rfl hl.1 rfl (Nat.le_of_ble_eq_true rfl) dX5_transferOne_179 (fun H locs hI => ?_)
  refine lv_istore (lv' := [(7, .int (cBus_find st y2 y1 y0)), (0, .ref (gad g 19)), (1, .int x1), (4, .int x4), (5, .int x5)]) hx hb dX5_transferOne_182 hl (by decide) rfl (fun ls hl => ?_)
  refine lv_iload hx hb dX5_transferOne_184 (lv_at hl 0 rfl) ?_
  refine lv_iconst (v := (-1 : Int32)) hx hb dX5_transferOne_186 (by decide) ?_
  refine lv_icmp_ne (tgt := 196) hx hb dX5_transferOne_187 (by decide) (fun c_187 => ?_) (fun c_187 => ?_)
  · have hF := hF.trans (if_neg c_187)
    refine lv_aload_n hx hb dX5_transferOne_196 rfl (lv_at hl 1 rfl) ?_
    refine lv_ldc (v := (16777216 : Int32)) hx hb hown (hts _ (List.mem_cons_of_mem _ mw360)) dX5_transferOne_197 ?_
    refine cx_Vi (As := [.int (16777216 : Int32)]) (rest := []) C (c_cProcessor_is l g st (16777216 : Int32)) (cwV 1 hts (gd_V _ mw397 mw398 mw399 mw46 mw400) rfl rfl rfl yd_yX5_is ⟨Nat.le_of_ble_eq_true rfl, Nat.le_of_ble_eq_true rfl⟩) (va_recv hK hI.1 (ci := 5) (q0 := 19) rfl rfl) hI rfl hl.1 rfl (Nat.le_of_ble_eq_true rfl) dX5_transferOne_199 (fun H locs hI => ?_)
    refine lv_if_eq (tgt := 214) hx hb dX5_transferOne_202 (by decide) (fun c_202 => ?_) (fun c_202 => ?_)
    · have hF := hF.trans (if_pos c_202)
      exact k_cProcessor_transferOne_b214 g C st x1 x4 x5 (cBus_find st y2 y1 y0) H locs ls hI (lv_sub hl [1, 2, 3, 4, 0] rfl) X hF
    · have hF := hF.trans (if_neg c_202)
      refine lv_aload_n hx hb dX5_transferOne_205 rfl (lv_at hl 1 rfl) ?_
      refine lv_ldc (v := (2097152 : Int32)) hx hb hown (hts _ (List.mem_cons_of_mem _ mw513)) dX5_transferOne_206 ?_
      refine cx_Vi (As := [.int (2097152 : Int32)]) (rest := []) C (c_cProcessor_is l g st (2097152 : Int32)) (cwV 1 hts (gd_V _ mw397 mw398 mw399 mw46 mw400) rfl rfl rfl yd_yX5_is ⟨Nat.le_of_ble_eq_true rfl, Nat.le_of_ble_eq_true rfl⟩) (va_recv hK hI.1 (ci := 5) (q0 := 19) rfl rfl) hI rfl hl.1 rfl (Nat.le_of_ble_eq_true rfl) dX5_transferOne_208 (fun H locs hI => ?_)
      refine lv_if_eq (tgt := 224) hx hb dX5_transferOne_211 (by decide) (fun c_211 => ?_) (fun c_211 => ?_)
      · have hF := hF.trans (if_pos c_211)
        exact k_cProcessor_transferOne_b224 g C st x1 x4 x5 (cBus_find st y2 y1 y0) H locs ls hI (lv_sub hl [1, 2, 3, 4, 0] rfl) X hF
      · have hF := hF.trans (if_neg c_211)
        exact k_cProcessor_transferOne_b214 g C st x1 x4 x5 (cBus_find st y2 y1 y0) H locs ls hI (lv_sub hl [1, 2, 3, 4, 0] rfl) X hF
  · have hF := hF.trans (if_pos c_187)
    refine lv_aload_n hx hb dX5_transferOne_190 rfl (lv_at hl 1 rfl) ?_
    refine lv_iconst (v := (3 : Int32)) hx hb dX5_transferOne_191 (by decide) ?_
    refine cx_Vi (As := [.int (3 : Int32)]) (rest := []) C (c_cProcessor_take l g st (3 : Int32)) (cwV 1 hts (gd_V _ mw401 mw402 mw403 mw46 mw404) rfl rfl rfl yd_yX5_take ⟨Nat.le_of_ble_eq_true rfl, Nat.le_of_ble_eq_true rfl⟩) (va_recv hK hI.1 (ci := 5) (q0 := 19) rfl rfl) hI rfl hl.1 rfl (Nat.le_of_ble_eq_true rfl) dX5_transferOne_192 (fun H locs hI => ?_)
    exact cx_iret C hI (congrArg Prod.fst hF) (congrArg Prod.snd hF) dX5_transferOne_195
def cProcessor_transferOne_b155 (st : CS) (x1 : Int32) (x4 : Int32) (x5 : Int32) (y0 : Int32) : CS × Int32 := (if ((cProcessor_is st (1048576 : Int32)) = 0) then (cProcessor_transferOne_b179 st x1 x4 x5 y0 x5 (1 : Int32)) else (cProcessor_transferOne_b179 st x1 x4 x5 y0 x5 (0 : Int32)))
set_option maxHeartbeats 4000000 in
set_option maxRecDepth 100000 in
theorem k_cProcessor_transferOne_b155 {p : Program} {l : Launch} {e : Env} {s : State} {m : MethodId} {args : Array Value} {below : List Frame} {meth : Method} {c : Code} {A : Nat → Prop} (g : Gm) (C : cX p s m args meth c A cX5_transferOne (some .int) 11 RX5 wq_X5_transferOne (gD g) vwCl (cty g) (cz g)) (st : CS) (x1 : Int32) (x4 : Int32) (x5 : Int32) (y0 : Int32) (H : Heap) (locs : List Loc) (ls : Array Slot) (hI : cI (gD g) vwCl (cw g) A s st H locs) (hl : lv_has ls 11 [(0, .ref (gad g 19)), (1, .int x1), (4, .int x4), (5, .int x5)]) (X : CS × Int32) (hF : X = cProcessor_transferOne_b155 st x1 x4 x5 y0) : W p l e rm_cProcessor_transferOne s m args below meth c H locs 0 0 (MQ below (cQi (gD g) vwCl (cty g) (cw g) A X.1 X.2) args s 0 0 A) (F0 m 155 ls [.int y0]) := by
  obtain ⟨hx, hb, hr, hml, hown, hts, hlocks, hK, hA, hZ, hzo⟩ := id C
  unfold cProcessor_transferOne_b155 at hF
  refine lv_istore (lv' := [(6, .int y0), (0, .ref (gad g 19)), (1, .int x1), (4, .int x4), (5, .int x5)]) hx hb dX5_transferOne_155 hl (by decide) rfl (fun ls hl => ?_)
  refine lv_aload_n hx hb dX5_transferOne_157 rfl (lv_at hl 1 rfl) ?_
  refine va_get (D := gD g) (ci := 5) (C := RX5) (T := TX5) (N := 10) (v := .ref (gad g 18)) hx hb hts (fun w h => List.mem_cons_of_mem _ (isX50 w h)) hown hK hI.1 19 rfl rfl 1 (by decide) (hts _ (List.mem_cons_of_mem _ mw113)) (fun _ h9 => h9) rfl dX5_transferOne_158 ?_
  refine lv_iload hx hb dX5_transferOne_161 (lv_at hl 0 rfl) ?_
  refine lv_iload hx hb dX5_transferOne_163 (lv_at hl 4 rfl) ?_
  refine lv_aload_n hx hb dX5_transferOne_165 rfl (lv_at hl 1 rfl) ?_
  refine lv_ldc (v := (1048576 : Int32)) hx hb hown (hts _ (List.mem_cons_of_mem _ mw390)) dX5_transferOne_166 ?_
  refine cx_Vi (As := [.int (1048576 : Int32)]) (rest := [.int x5, .int y0, .ref (gad g 18)]) C (c_cProcessor_is l g st (1048576 : Int32)) (cwV 1 hts (gd_V _ mw397 mw398 mw399 mw46 mw400) rfl rfl rfl yd_yX5_is ⟨Nat.le_of_ble_eq_true rfl, Nat.le_of_ble_eq_true rfl⟩) (va_recv hK hI.1 (ci := 5) (q0 := 19) rfl rfl) hI rfl hl.1 rfl (Nat.le_of_ble_eq_true rfl) dX5_transferOne_168 (fun H locs hI => ?_)
  refine lv_if_ne (tgt := 178) hx hb dX5_transferOne_171 (by decide) (fun c_171 => ?_) (fun c_171 => ?_)
  · have hF := hF.trans (if_neg c_171)
    refine lv_iconst (v := (0 : Int32)) hx hb dX5_transferOne_178 (by decide) ?_
    exact k_cProcessor_transferOne_b179 g C st x1 x4 x5 y0 x5 (0 : Int32) H locs ls hI (lv_sub hl [1, 2, 3, 4] rfl) X hF
  · have hF := hF.trans (if_pos c_171)
    refine lv_iconst (v := (1 : Int32)) hx hb dX5_transferOne_174 (by decide) ?_
    refine lv_goto (tgt := 179) hx hb dX5_transferOne_175 (by decide) ?_
    exact k_cProcessor_transferOne_b179 g C st x1 x4 x5 y0 x5 (1 : Int32) H locs ls hI (lv_sub hl [1, 2, 3, 4] rfl) X hF
def cProcessor_transferOne_b148 (st : CS) (x1 : Int32) (x4 : Int32) (x5 : Int32) : CS × Int32 := (cProcessor_transferOne_b155 st x1 x4 x5 (cRegisters_mode st))
set_option maxHeartbeats 4000000 in
set_option maxRecDepth 100000 in
theorem k_cProcessor_transferOne_b148 {p : Program} {l : Launch} {e : Env} {s : State} {m : MethodId} {args : Array Value} {below : List Frame} {meth : Method} {c : Code} {A : Nat → Prop} (g : Gm) (C : cX p s m args meth c A cX5_transferOne (some .int) 11 RX5 wq_X5_transferOne (gD g) vwCl (cty g) (cz g)) (st : CS) (x1 : Int32) (x4 : Int32) (x5 : Int32) (H : Heap) (locs : List Loc) (ls : Array Slot) (hI : cI (gD g) vwCl (cw g) A s st H locs) (hl : lv_has ls 11 [(0, .ref (gad g 19)), (1, .int x1), (4, .int x4), (5, .int x5)]) (X : CS × Int32) (hF : X = cProcessor_transferOne_b148 st x1 x4 x5) : W p l e rm_cProcessor_transferOne s m args below meth c H locs 0 0 (MQ below (cQi (gD g) vwCl (cty g) (cw g) A X.1 X.2) args s 0 0 A) (F0 m 148 ls []) := by
  obtain ⟨hx, hb, hr, hml, hown, hts, hlocks, hK, hA, hZ, hzo⟩ := id C
  unfold cProcessor_transferOne_b148 at hF
  refine lv_aload_n hx hb dX5_transferOne_148 rfl (lv_at hl 0 rfl) ?_
  refine va_get (D := gD g) (ci := 5) (C := RX5) (T := TX5) (N := 10) (v := .ref (gad g 2)) hx hb hts (fun w h => List.mem_cons_of_mem _ (isX50 w h)) hown hK hI.1 19 rfl rfl 0 (by decide) (hts _ (List.mem_cons_of_mem _ mw112)) (fun _ h9 => h9) rfl dX5_transferOne_149 ?_
  refine cx_Vi (As := []) (rest := []) C (c_cRegisters_mode l g st ) (cwV 0 hts (gd_V _ mw329 mw330 mw331 mw14 mw332) rfl rfl rfl yd_yX6_mode ⟨Nat.le_of_ble_eq_true rfl, Nat.le_of_ble_eq_true rfl⟩) (va_recv hK hI.1 (ci := 6) (q0 := 2) rfl rfl) hI rfl hl.1 rfl (Nat.le_of_ble_eq_true rfl) dX5_transferOne_152 (fun H locs hI => ?_)
  exact k_cProcessor_transferOne_b155 g C st x1 x4 x5 (cRegisters_mode st) H locs ls hI (lv_sub hl [0, 1, 2, 3] rfl) X hF
def cProcessor_transferOne_b110 (st : CS) (x1 : Int32) (x4 : Int32) (y0 : Int32) : CS × Int32 := (if ((ushr y0 (26 : Int32)) = 0) then (if ((cProcessor_is st (16777216 : Int32)) = 0) then (if ((cProcessor_is st (2097152 : Int32)) = 0) then (cProcessor_transferOne_b148 st x1 x4 y0) else (cProcessor_transferOne_b155 st x1 x4 y0 (0 : Int32))) else (cProcessor_transferOne_b148 st x1 x4 y0)) else ((cProcessor_take st (4 : Int32)).1, (cProcessor_take st (4 : Int32)).2))
set_option maxHeartbeats 4000000 in
set_option maxRecDepth 100000 in
theorem k_cProcessor_transferOne_b110 {p : Program} {l : Launch} {e : Env} {s : State} {m : MethodId} {args : Array Value} {below : List Frame} {meth : Method} {c : Code} {A : Nat → Prop} (g : Gm) (C : cX p s m args meth c A cX5_transferOne (some .int) 11 RX5 wq_X5_transferOne (gD g) vwCl (cty g) (cz g)) (st : CS) (x1 : Int32) (x4 : Int32) (y0 : Int32) (H : Heap) (locs : List Loc) (ls : Array Slot) (hI : cI (gD g) vwCl (cw g) A s st H locs) (hl : lv_has ls 11 [(0, .ref (gad g 19)), (1, .int x1), (4, .int x4)]) (X : CS × Int32) (hF : X = cProcessor_transferOne_b110 st x1 x4 y0) : W p l e rm_cProcessor_transferOne s m args below meth c H locs 0 0 (MQ below (cQi (gD g) vwCl (cty g) (cw g) A X.1 X.2) args s 0 0 A) (F0 m 110 ls [.int y0]) := by
  obtain ⟨hx, hb, hr, hml, hown, hts, hlocks, hK, hA, hZ, hzo⟩ := id C
  unfold cProcessor_transferOne_b110 at hF
  refine lv_istore (lv' := [(5, .int y0), (0, .ref (gad g 19)), (1, .int x1), (4, .int x4)]) hx hb dX5_transferOne_110 hl (by decide) rfl (fun ls hl => ?_)
  refine lv_iload hx hb dX5_transferOne_112 (lv_at hl 0 rfl) ?_
  refine lv_bipush (v := (26 : Int32)) hx hb dX5_transferOne_114 (by decide) ?_
  refine lv_iushr (v := (ushr y0 (26 : Int32))) hx hb dX5_transferOne_116 rfl ?_
  refine lv_if_eq (tgt := 126) hx hb dX5_transferOne_117 (by decide) (fun c_117 => ?_) (fun c_117 => ?_)
  · have hF := hF.trans (if_pos c_117)
    refine lv_aload_n hx hb dX5_transferOne_126 rfl (lv_at hl 1 rfl) ?_
    refine lv_ldc (v := (16777216 : Int32)) hx hb hown (hts _ (List.mem_cons_of_mem _ mw360)) dX5_transferOne_127 ?_
    refine cx_Vi (As := [.int (16777216 : Int32)]) (rest := []) C (c_cProcessor_is l g st (16777216 : Int32)) (cwV 1 hts (gd_V _ mw397 mw398 mw399 mw46 mw400) rfl rfl rfl yd_yX5_is ⟨Nat.le_of_ble_eq_true rfl, Nat.le_of_ble_eq_true rfl⟩) (va_recv hK hI.1 (ci := 5) (q0 := 19) rfl rfl) hI rfl hl.1 rfl (Nat.le_of_ble_eq_true rfl) dX5_transferOne_129 (fun H locs hI => ?_)
    refine lv_if_ne (tgt := 148) hx hb dX5_transferOne_132 (by decide) (fun c_132 => ?_) (fun c_132 => ?_)
    · have hF := hF.trans (if_neg c_132)
      exact k_cProcessor_transferOne_b148 g C st x1 x4 y0 H locs ls hI (lv_sub hl [1, 2, 3, 0] rfl) X hF
    · have hF := hF.trans (if_pos c_132)
      refine lv_aload_n hx hb dX5_transferOne_135 rfl (lv_at hl 1 rfl) ?_
      refine lv_ldc (v := (2097152 : Int32)) hx hb hown (hts _ (List.mem_cons_of_mem _ mw513)) dX5_transferOne_136 ?_
      refine cx_Vi (As := [.int (2097152 : Int32)]) (rest := []) C (c_cProcessor_is l g st (2097152 : Int32)) (cwV 1 hts (gd_V _ mw397 mw398 mw399 mw46 mw400) rfl rfl rfl yd_yX5_is ⟨Nat.le_of_ble_eq_true rfl, Nat.le_of_ble_eq_true rfl⟩) (va_recv hK hI.1 (ci := 5) (q0 := 19) rfl rfl) hI rfl hl.1 rfl (Nat.le_of_ble_eq_true rfl) dX5_transferOne_138 (fun H locs hI => ?_)
      refine lv_if_eq (tgt := 148) hx hb dX5_transferOne_141 (by decide) (fun c_141 => ?_) (fun c_141 => ?_)
      · have hF := hF.trans (if_pos c_141)
        exact k_cProcessor_transferOne_b148 g C st x1 x4 y0 H locs ls hI (lv_sub hl [1, 2, 3, 0] rfl) X hF
      · have hF := hF.trans (if_neg c_141)
        refine lv_iconst (v := (0 : Int32)) hx hb dX5_transferOne_144 (by decide) ?_
        refine lv_goto (tgt := 155) hx hb dX5_transferOne_145 (by decide) ?_
        exact k_cProcessor_transferOne_b155 g C st x1 x4 y0 (0 : Int32) H locs ls hI (lv_sub hl [1, 2, 3, 0] rfl) X hF
  · have hF := hF.trans (if_neg c_117)
    refine lv_aload_n hx hb dX5_transferOne_120 rfl (lv_at hl 1 rfl) ?_
    refine lv_iconst (v := (4 : Int32)) hx hb dX5_transferOne_121 (by decide) ?_
    refine cx_Vi (As := [.int (4 : Int32)]) (rest := []) C (c_cProcessor_take l g st (4 : Int32)) (cwV 1 hts (gd_V _ mw401 mw402 mw403 mw46 mw404) rfl rfl rfl yd_yX5_take ⟨Nat.le_of_ble_eq_true rfl, Nat.le_of_ble_eq_true rfl⟩) (va_recv hK hI.1 (ci := 5) (q0 := 19) rfl rfl) hI rfl hl.1 rfl (Nat.le_of_ble_eq_true rfl) dX5_transferOne_122 (fun H locs hI => ?_)
    exact cx_iret C hI (congrArg Prod.fst hF) (congrArg Prod.snd hF) dX5_transferOne_125
def cProcessor_transferOne_b93 (st : CS) (x1 : Int32) (x2 : Int32) (y0 : Int32) : CS × Int32 := (if ((cProcessor_is st (16777216 : Int32)) = 0) then (cProcessor_transferOne_b110 st x1 y0 x2) else (cProcessor_transferOne_b110 st x1 y0 y0))
set_option maxHeartbeats 4000000 in
set_option maxRecDepth 100000 in
theorem k_cProcessor_transferOne_b93 {p : Program} {l : Launch} {e : Env} {s : State} {m : MethodId} {args : Array Value} {below : List Frame} {meth : Method} {c : Code} {A : Nat → Prop} (g : Gm) (C : cX p s m args meth c A cX5_transferOne (some .int) 11 RX5 wq_X5_transferOne (gD g) vwCl (cty g) (cz g)) (st : CS) (x1 : Int32) (x2 : Int32) (y0 : Int32) (H : Heap) (locs : List Loc) (ls : Array Slot) (hI : cI (gD g) vwCl (cw g) A s st H locs) (hl : lv_has ls 11 [(0, .ref (gad g 19)), (1, .int x1), (2, .int x2)]) (X : CS × Int32) (hF : X = cProcessor_transferOne_b93 st x1 x2 y0) : W p l e rm_cProcessor_transferOne s m args below meth c H locs 0 0 (MQ below (cQi (gD g) vwCl (cty g) (cw g) A X.1 X.2) args s 0 0 A) (F0 m 93 ls [.int y0]) := by
  obtain ⟨hx, hb, hr, hml, hown, hts, hlocks, hK, hA, hZ, hzo⟩ := id C
  unfold cProcessor_transferOne_b93 at hF
  refine lv_istore (lv' := [(4, .int y0), (0, .ref (gad g 19)), (1, .int x1), (2, .int x2)]) hx hb dX5_transferOne_93 hl (by decide) rfl (fun ls hl => ?_)
  refine lv_aload_n hx hb dX5_transferOne_95 rfl (lv_at hl 1 rfl) ?_
  refine lv_ldc (v := (16777216 : Int32)) hx hb hown (hts _ (List.mem_cons_of_mem _ mw360)) dX5_transferOne_96 ?_
  refine cx_Vi (As := [.int (16777216 : Int32)]) (rest := []) C (c_cProcessor_is l g st (16777216 : Int32)) (cwV 1 hts (gd_V _ mw397 mw398 mw399 mw46 mw400) rfl rfl rfl yd_yX5_is ⟨Nat.le_of_ble_eq_true rfl, Nat.le_of_ble_eq_true rfl⟩) (va_recv hK hI.1 (ci := 5) (q0 := 19) rfl rfl) hI rfl hl.1 rfl (Nat.le_of_ble_eq_true rfl) dX5_transferOne_98 (fun H locs hI => ?_)
  refine lv_if_eq (tgt := 109) hx hb dX5_transferOne_101 (by decide) (fun c_101 => ?_) (fun c_101 => ?_)
  · have hF := hF.trans (if_pos c_101)
    refine lv_iload_n hx hb dX5_transferOne_109 rfl (lv_at hl 3 rfl) ?_
    exact k_cProcessor_transferOne_b110 g C st x1 y0 x2 H locs ls hI (lv_sub hl [1, 2, 0] rfl) X hF
  · have hF := hF.trans (if_neg c_101)
    refine lv_iload hx hb dX5_transferOne_104 (lv_at hl 0 rfl) ?_
    refine lv_goto (tgt := 110) hx hb dX5_transferOne_106 (by decide) ?_
    exact k_cProcessor_transferOne_b110 g C st x1 y0 y0 H locs ls hI (lv_sub hl [1, 2, 0] rfl) X hF
def cProcessor_transferOne_b74 (st : CS) (x1 : Int32) (x2 : Int32) (y0 : Int32) : CS × Int32 := (if ((cProcessor_is st (8388608 : Int32)) = 0) then (cProcessor_transferOne_b93 st x1 x2 (x2 - y0)) else (cProcessor_transferOne_b93 st x1 x2 (x2 + y0)))
set_option maxHeartbeats 4000000 in
set_option maxRecDepth 100000 in
theorem k_cProcessor_transferOne_b74 {p : Program} {l : Launch} {e : Env} {s : State} {m : MethodId} {args : Array Value} {below : List Frame} {meth : Method} {c : Code} {A : Nat → Prop} (g : Gm) (C : cX p s m args meth c A cX5_transferOne (some .int) 11 RX5 wq_X5_transferOne (gD g) vwCl (cty g) (cz g)) (st : CS) (x1 : Int32) (x2 : Int32) (y0 : Int32) (H : Heap) (locs : List Loc) (ls : Array Slot) (hI : cI (gD g) vwCl (cw g) A s st H locs) (hl : lv_has ls 11 [(0, .ref (gad g 19)), (1, .int x1), (2, .int x2)]) (X : CS × Int32) (hF : X = cProcessor_transferOne_b74 st x1 x2 y0) : W p l e rm_cProcessor_transferOne s m args below meth c H locs 0 0 (MQ below (cQi (gD g) vwCl (cty g) (cw g) A X.1 X.2) args s 0 0 A) (F0 m 74 ls [.int y0]) := by
  obtain ⟨hx, hb, hr, hml, hown, hts, hlocks, hK, hA, hZ, hzo⟩ := id C
  unfold cProcessor_transferOne_b74 at hF
  refine lv_istore_n (lv' := [(3, .int y0), (0, .ref (gad g 19)), (1, .int x1), (2, .int x2)]) hx hb dX5_transferOne_74 rfl hl (by decide) rfl (fun ls hl => ?_)
  refine lv_aload_n hx hb dX5_transferOne_75 rfl (lv_at hl 1 rfl) ?_
  refine lv_ldc (v := (8388608 : Int32)) hx hb hown (hts _ (List.mem_cons_of_mem _ mw524)) dX5_transferOne_76 ?_
  refine cx_Vi (As := [.int (8388608 : Int32)]) (rest := []) C (c_cProcessor_is l g st (8388608 : Int32)) (cwV 1 hts (gd_V _ mw397 mw398 mw399 mw46 mw400) rfl rfl rfl yd_yX5_is ⟨Nat.le_of_ble_eq_true rfl, Nat.le_of_ble_eq_true rfl⟩) (va_recv hK hI.1 (ci := 5) (q0 := 19) rfl rfl) hI rfl hl.1 rfl (Nat.le_of_ble_eq_true rfl) dX5_transferOne_78 (fun H locs hI => ?_)
  refine lv_if_eq (tgt := 90) hx hb dX5_transferOne_81 (by decide) (fun c_81 => ?_) (fun c_81 => ?_)
  · have hF := hF.trans (if_pos c_81)
    refine lv_iload_n hx hb dX5_transferOne_90 rfl (lv_at hl 3 rfl) ?_
    refine lv_iload_n hx hb dX5_transferOne_91 rfl (lv_at hl 0 rfl) ?_
    refine lv_isub hx hb dX5_transferOne_92 ?_
    exact k_cProcessor_transferOne_b93 g C st x1 x2 (x2 - y0) H locs ls hI (lv_sub hl [1, 2, 3] rfl) X hF
  · have hF := hF.trans (if_neg c_81)
    refine lv_iload_n hx hb dX5_transferOne_84 rfl (lv_at hl 3 rfl) ?_
    refine lv_iload_n hx hb dX5_transferOne_85 rfl (lv_at hl 0 rfl) ?_
    refine lv_iadd hx hb dX5_transferOne_86 ?_
    refine lv_goto (tgt := 93) hx hb dX5_transferOne_87 (by decide) ?_
    exact k_cProcessor_transferOne_b93 g C st x1 x2 (x2 + y0) H locs ls hI (lv_sub hl [1, 2, 3] rfl) X hF
def cProcessor_transferOne_b63 (st : CS) (x1 : Int32) (x2 : Int32) (y0 : Int32) : CS × Int32 := (cProcessor_transferOne_b74 st x1 x2 y0)
set_option maxHeartbeats 4000000 in
set_option maxRecDepth 100000 in
theorem k_cProcessor_transferOne_b63 {p : Program} {l : Launch} {e : Env} {s : State} {m : MethodId} {args : Array Value} {below : List Frame} {meth : Method} {c : Code} {A : Nat → Prop} (g : Gm) (C : cX p s m args meth c A cX5_transferOne (some .int) 11 RX5 wq_X5_transferOne (gD g) vwCl (cty g) (cz g)) (st : CS) (x1 : Int32) (x2 : Int32) (y0 : Int32) (H : Heap) (locs : List Loc) (ls : Array Slot) (hI : cI (gD g) vwCl (cw g) A s st H locs) (hl : lv_has ls 11 [(0, .ref (gad g 19)), (1, .int x1), (2, .int x2)]) (X : CS × Int32) (hF : X = cProcessor_transferOne_b63 st x1 x2 y0) : W p l e rm_cProcessor_transferOne s m args below meth c H locs 0 0 (MQ below (cQi (gD g) vwCl (cty g) (cw g) A X.1 X.2) args s 0 0 A) (F0 m 63 ls [.int y0]) := by
  obtain ⟨hx, hb, hr, hml, hown, hts, hlocks, hK, hA, hZ, hzo⟩ := id C
  unfold cProcessor_transferOne_b63 at hF
  refine lv_goto (tgt := 74) hx hb dX5_transferOne_63 (by decide) ?_
  exact k_cProcessor_transferOne_b74 g C st x1 x2 y0 H locs ls hI (lv_sub hl [0, 1, 2] rfl) X hF
def cProcessor_transferOne_b24 (st : CS) : CS × Int32 := (if ((cProcessor_is st (33554432 : Int32)) = 0) then (cProcessor_transferOne_b74 st (cProcessor_part st (16 : Int32)) (cProcessor_operand st (cProcessor_part st (16 : Int32)) (8 : Int32)) ((gI st 32) &&& (4095 : Int32))) else (cProcessor_transferOne_b63 (cProcessor_shiftedByBits st (cProcessor_operand st (cProcessor_part st (0 : Int32)) (8 : Int32))).1 (cProcessor_part st (16 : Int32)) (cProcessor_operand st (cProcessor_part st (16 : Int32)) (8 : Int32)) (cProcessor_shiftedByBits st (cProcessor_operand st (cProcessor_part st (0 : Int32)) (8 : Int32))).2))
set_option maxHeartbeats 4000000 in
set_option maxRecDepth 100000 in
theorem k_cProcessor_transferOne_b24 {p : Program} {l : Launch} {e : Env} {s : State} {m : MethodId} {args : Array Value} {below : List Frame} {meth : Method} {c : Code} {A : Nat → Prop} (g : Gm) (C : cX p s m args meth c A cX5_transferOne (some .int) 11 RX5 wq_X5_transferOne (gD g) vwCl (cty g) (cz g)) (st : CS) (H : Heap) (locs : List Loc) (ls : Array Slot) (hI : cI (gD g) vwCl (cw g) A s st H locs) (hl : lv_has ls 11 [(0, .ref (gad g 19))]) (X : CS × Int32) (hF : X = cProcessor_transferOne_b24 st ) : W p l e rm_cProcessor_transferOne s m args below meth c H locs 0 0 (MQ below (cQi (gD g) vwCl (cty g) (cw g) A X.1 X.2) args s 0 0 A) (F0 m 24 ls []) := by
  obtain ⟨hx, hb, hr, hml, hown, hts, hlocks, hK, hA, hZ, hzo⟩ := id C
  unfold cProcessor_transferOne_b24 at hF
  refine lv_aload_n hx hb dX5_transferOne_24 rfl (lv_at hl 0 rfl) ?_
  refine lv_bipush (v := (16 : Int32)) hx hb dX5_transferOne_25 (by decide) ?_
  refine cx_Vi (As := [.int (16 : Int32)]) (rest := []) C (c_cProcessor_part l g st (16 : Int32)) (cwV 1 hts (gd_V _ mw393 mw394 mw395 mw46 mw396) rfl rfl rfl yd_yX5_part ⟨Nat.le_of_ble_eq_true rfl, Nat.le_of_ble_eq_true rfl⟩) (va_recv hK hI.1 (ci := 5) (q0 := 19) rfl rfl) hI rfl hl.1 rfl (Nat.le_of_ble_eq_true rfl) dX5_transferOne_27 (fun H locs hI => ?_)
  refine lv_istore_n (lv' := [(1, .int (cProcessor_part st (16 : Int32))), (0, .ref (gad g 19))]) hx hb dX5_transferOne_30 rfl hl (by decide) rfl (fun ls hl => ?_)
  refine lv_aload_n hx hb dX5_transferOne_31 rfl (lv_at hl 1 rfl) ?_
  refine lv_iload_n hx hb dX5_transferOne_32 rfl (lv_at hl 0 rfl) ?_
  refine lv_bipush (v := (8 : Int32)) hx hb dX5_transferOne_33 (by decide) ?_
  refine cx_Vi (As := [.int (cProcessor_part st (16 : Int32)), .int (8 : Int32)]) (rest := []) C (c_cProcessor_operand l g st (cProcessor_part st (16 : Int32)) (8 : Int32)) (cwV 2 hts (gd_V _ mw444 mw445 mw446 mw46 mw447) rfl rfl rfl yd_yX5_operand ⟨Nat.le_of_ble_eq_true rfl, Nat.le_of_ble_eq_true rfl⟩) (va_recv hK hI.1 (ci := 5) (q0 := 19) rfl rfl) hI rfl hl.1 rfl (Nat.le_of_ble_eq_true rfl) dX5_transferOne_35 (fun H locs hI => ?_)
  refine lv_istore_n (lv' := [(2, .int (cProcessor_operand st (cProcessor_part st (16 : Int32)) (8 : Int32))), (1, .int (cProcessor_part st (16 : Int32))), (0, .ref (gad g 19))]) hx hb dX5_transferOne_38 rfl hl (by decide) rfl (fun ls hl => ?_)
  refine lv_aload_n hx hb dX5_transferOne_39 rfl (lv_at hl 2 rfl) ?_
  refine lv_ldc (v := (33554432 : Int32)) hx hb hown (hts _ (List.mem_cons_of_mem _ mw391)) dX5_transferOne_40 ?_
  refine cx_Vi (As := [.int (33554432 : Int32)]) (rest := []) C (c_cProcessor_is l g st (33554432 : Int32)) (cwV 1 hts (gd_V _ mw397 mw398 mw399 mw46 mw400) rfl rfl rfl yd_yX5_is ⟨Nat.le_of_ble_eq_true rfl, Nat.le_of_ble_eq_true rfl⟩) (va_recv hK hI.1 (ci := 5) (q0 := 19) rfl rfl) hI rfl hl.1 rfl (Nat.le_of_ble_eq_true rfl) dX5_transferOne_42 (fun H locs hI => ?_)
  refine lv_if_eq (tgt := 66) hx hb dX5_transferOne_45 (by decide) (fun c_45 => ?_) (fun c_45 => ?_)
  · have hF := hF.trans (if_pos c_45)
    refine lv_aload_n hx hb dX5_transferOne_66 rfl (lv_at hl 2 rfl) ?_
    refine va_get (D := gD g) (ci := 5) (C := RX5) (T := TX5) (N := 10) (v := .int (gI st 32)) hx hb hts (fun w h => List.mem_cons_of_mem _ (isX50 w h)) hown hK hI.1 19 rfl rfl 6 (by decide) (hts _ (List.mem_cons_of_mem _ mw311)) (fun _ h9 => h9) rfl dX5_transferOne_67 ?_
    refine lv_sipush (v := (4095 : Int32)) hx hb dX5_transferOne_70 (by decide) ?_
    refine lv_iand hx hb dX5_transferOne_73 ?_
    exact k_cProcessor_transferOne_b74 g C st (cProcessor_part st (16 : Int32)) (cProcessor_operand st (cProcessor_part st (16 : Int32)) (8 : Int32)) ((gI st 32) &&& (4095 : Int32)) H locs ls hI (lv_sub hl [2, 1, 0] rfl) X hF
  · have hF := hF.trans (if_neg c_45)
    refine lv_aload_n hx hb dX5_transferOne_48 rfl (lv_at hl 2 rfl) ?_
    refine lv_aload_n hx hb dX5_transferOne_49 rfl (lv_at hl 2 rfl) ?_
    refine lv_aload_n hx hb dX5_transferOne_50 rfl (lv_at hl 2 rfl) ?_
    refine lv_iconst (v := (0 : Int32)) hx hb dX5_transferOne_51 (by decide) ?_
    refine cx_Vi (As := [.int (0 : Int32)]) (rest := [.ref (gad g 19), .ref (gad g 19)]) C (c_cProcessor_part l g st (0 : Int32)) (cwV 1 hts (gd_V _ mw393 mw394 mw395 mw46 mw396) rfl rfl rfl yd_yX5_part ⟨Nat.le_of_ble_eq_true rfl, Nat.le_of_ble_eq_true rfl⟩) (va_recv hK hI.1 (ci := 5) (q0 := 19) rfl rfl) hI rfl hl.1 rfl (Nat.le_of_ble_eq_true rfl) dX5_transferOne_52 (fun H locs hI => ?_)
    refine lv_bipush (v := (8 : Int32)) hx hb dX5_transferOne_55 (by decide) ?_
    refine cx_Vi (As := [.int (cProcessor_part st (0 : Int32)), .int (8 : Int32)]) (rest := [.ref (gad g 19)]) C (c_cProcessor_operand l g st (cProcessor_part st (0 : Int32)) (8 : Int32)) (cwV 2 hts (gd_V _ mw444 mw445 mw446 mw46 mw447) rfl rfl rfl yd_yX5_operand ⟨Nat.le_of_ble_eq_true rfl, Nat.le_of_ble_eq_true rfl⟩) (va_recv hK hI.1 (ci := 5) (q0 := 19) rfl rfl) hI rfl hl.1 rfl (Nat.le_of_ble_eq_true rfl) dX5_transferOne_57 (fun H locs hI => ?_)
    refine cx_Vi (As := [.int (cProcessor_operand st (cProcessor_part st (0 : Int32)) (8 : Int32))]) (rest := []) C (c_cProcessor_shiftedByBits l g st (cProcessor_operand st (cProcessor_part st (0 : Int32)) (8 : Int32))) (cwV 1 hts (gd_V _ mw460 mw461 mw462 mw46 mw463) rfl rfl rfl yd_yX5_shiftedByBits ⟨Nat.le_of_ble_eq_true rfl, Nat.le_of_ble_eq_true rfl⟩) (va_recv hK hI.1 (ci := 5) (q0 := 19) rfl rfl) hI rfl hl.1 rfl (Nat.le_of_ble_eq_true rfl) dX5_transferOne_60 (fun H locs hI => ?_)
    exact k_cProcessor_transferOne_b63 g C (cProcessor_shiftedByBits st (cProcessor_operand st (cProcessor_part st (0 : Int32)) (8 : Int32))).1 (cProcessor_part st (16 : Int32)) (cProcessor_operand st (cProcessor_part st (16 : Int32)) (8 : Int32)) (cProcessor_shiftedByBits st (cProcessor_operand st (cProcessor_part st (0 : Int32)) (8 : Int32))).2 H locs ls hI (lv_sub hl [2, 1, 0] rfl) X hF
def cProcessor_transferOne (st : CS) : CS × Int32 := (if ((cProcessor_is st (33554432 : Int32)) = 0) then (cProcessor_transferOne_b24 st ) else (if ((cProcessor_is st (16 : Int32)) = 0) then (cProcessor_transferOne_b24 st ) else ((cProcessor_take st (0 : Int32)).1, (cProcessor_take st (0 : Int32)).2)))
set_option maxHeartbeats 4000000 in
set_option maxRecDepth 100000 in
theorem k_cProcessor_transferOne {p : Program} {l : Launch} {e : Env} {s : State} {m : MethodId} {args : Array Value} {below : List Frame} {meth : Method} {c : Code} {A : Nat → Prop} (g : Gm) (C : cX p s m args meth c A cX5_transferOne (some .int) 11 RX5 wq_X5_transferOne (gD g) vwCl (cty g) (cz g)) (st : CS) (H : Heap) (locs : List Loc) (ls : Array Slot) (hI : cI (gD g) vwCl (cw g) A s st H locs) (hl : lv_has ls 11 [(0, .ref (gad g 19))]) (X : CS × Int32) (hF : X = cProcessor_transferOne st) : W p l e rm_cProcessor_transferOne s m args below meth c H locs 0 0 (MQ below (cQi (gD g) vwCl (cty g) (cw g) A X.1 X.2) args s 0 0 A) (F0 m 0 ls []) := by
  obtain ⟨hx, hb, hr, hml, hown, hts, hlocks, hK, hA, hZ, hzo⟩ := id C
  unfold cProcessor_transferOne at hF
  refine lv_aload_n hx hb dX5_transferOne_0 rfl (lv_at hl 0 rfl) ?_
  refine lv_ldc (v := (33554432 : Int32)) hx hb hown (hts _ (List.mem_cons_of_mem _ mw391)) dX5_transferOne_1 ?_
  refine cx_Vi (As := [.int (33554432 : Int32)]) (rest := []) C (c_cProcessor_is l g st (33554432 : Int32)) (cwV 1 hts (gd_V _ mw397 mw398 mw399 mw46 mw400) rfl rfl rfl yd_yX5_is ⟨Nat.le_of_ble_eq_true rfl, Nat.le_of_ble_eq_true rfl⟩) (va_recv hK hI.1 (ci := 5) (q0 := 19) rfl rfl) hI rfl hl.1 rfl (Nat.le_of_ble_eq_true rfl) dX5_transferOne_3 (fun H locs hI => ?_)
  refine lv_if_eq (tgt := 24) hx hb dX5_transferOne_6 (by decide) (fun c_6 => ?_) (fun c_6 => ?_)
  · have hF := hF.trans (if_pos c_6)
    exact k_cProcessor_transferOne_b24 g C st  H locs ls hI (lv_sub hl [0] rfl) X hF
  · have hF := hF.trans (if_neg c_6)
    refine lv_aload_n hx hb dX5_transferOne_9 rfl (lv_at hl 0 rfl) ?_
    refine lv_bipush (v := (16 : Int32)) hx hb dX5_transferOne_10 (by decide) ?_
    refine cx_Vi (As := [.int (16 : Int32)]) (rest := []) C (c_cProcessor_is l g st (16 : Int32)) (cwV 1 hts (gd_V _ mw397 mw398 mw399 mw46 mw400) rfl rfl rfl yd_yX5_is ⟨Nat.le_of_ble_eq_true rfl, Nat.le_of_ble_eq_true rfl⟩) (va_recv hK hI.1 (ci := 5) (q0 := 19) rfl rfl) hI rfl hl.1 rfl (Nat.le_of_ble_eq_true rfl) dX5_transferOne_12 (fun H locs hI => ?_)
    refine lv_if_eq (tgt := 24) hx hb dX5_transferOne_15 (by decide) (fun c_15 => ?_) (fun c_15 => ?_)
    · have hF := hF.trans (if_pos c_15)
      exact k_cProcessor_transferOne_b24 g C st  H locs ls hI (lv_sub hl [0] rfl) X hF
    · have hF := hF.trans (if_neg c_15)
      refine lv_aload_n hx hb dX5_transferOne_18 rfl (lv_at hl 0 rfl) ?_
      refine lv_iconst (v := (0 : Int32)) hx hb dX5_transferOne_19 (by decide) ?_
      refine cx_Vi (As := [.int (0 : Int32)]) (rest := []) C (c_cProcessor_take l g st (0 : Int32)) (cwV 1 hts (gd_V _ mw401 mw402 mw403 mw46 mw404) rfl rfl rfl yd_yX5_take ⟨Nat.le_of_ble_eq_true rfl, Nat.le_of_ble_eq_true rfl⟩) (va_recv hK hI.1 (ci := 5) (q0 := 19) rfl rfl) hI rfl hl.1 rfl (Nat.le_of_ble_eq_true rfl) dX5_transferOne_20 (fun H locs hI => ?_)
      exact cx_iret C hI (congrArg Prod.fst hF) (congrArg Prod.snd hF) dX5_transferOne_23
set_option maxHeartbeats 4000000 in
set_option maxRecDepth 100000 in
theorem c_cProcessor_transferOne (l : Launch) (g : Gm) (st : CS) : Mi l yX5_transferOne wq_X5_transferOne rm_cProcessor_transferOne (gD g) vwCl (cty g) (cw g) (cz g) [.ref (gad g 19)] st (cProcessor_transferOne st).1 (cProcessor_transferOne st).2 := by
  intro sz
  refine Met.ofW (cc := cX5_transferOne) (maxL := 11) (ret := (some .int)) (by decide) rfl ?_
  intro p e s m args below meth c s₁ B hml hv
  obtain ⟨rfl, hsz, hP, hK, hD0, hZ⟩ := hv
  subst hsz
  have hl := lv_entry ([.ref (gad g 19)]) (n := 11) (Nat.le_of_ble_eq_true rfl)
  rw [lg_entry_eq]
  generalize (lg_sl ([.ref (gad g 19)]) ++ List.replicate (11 - (lg_sl ([.ref (gad g 19)])).length) Slot.unset).toArray = ls at hl ⊢
  exact k_cProcessor_transferOne g ⟨B.exec, B.bytes, B.returns, hml, findClass_of_methodNamed B.named, atoms_spec (ws := wq_X5_transferOne) B.pre, B.notSynchronized, hK, fun q h => Or.inr h, hZ, cz_ok g⟩ st  _ _ ls ⟨hP, hD0.self, va_S.rf⟩ hl _ rfl
abbrev wq_X5_findAll : List Cond := .code yX5_findAll cX5_findAll 6 (some .boolean) :: wAll
theorem yd_yX5_findAll : yX5_findAll.cls = RX5 ∧ yX5_findAll.cls ≠ "java/lang/invoke/MethodHandle" ∧ yX5_findAll.cls ≠ "java/lang/invoke/VarHandle" ∧ (parseMethodDescriptor yX5_findAll.desc).map (fun d => d.parameters.length) = some 2 := by decide +kernel
abbrev rm_cProcessor_findAll : Room := { frames := 2, cells := 0, slots := 0, locals := 46 }
def cProcessor_findAll_b45 (rec : CS → Int32 → Int32 → Int32 → Int32 → Option (CS × Int32)) (st : CS) (x1 : Int32) (x2 : Int32) (x3 : Int32) (x4 : Int32) (y2 : Int32) (y1 : Int32) (y0 : Int32) : Option (CS × Int32) := (if ((cBus_find st y2 y1 y0) = (-1 : Int32)) then (some (st, (0 : Int32))) else (rec (sA st 8 (upd (gA st 8) (x4 &&& (15 : Int32)).toNatClampNeg (cBus_find st y2 y1 y0))) x1 x2 x3 (x4 + (1 : Int32))))
set_option maxHeartbeats 4000000 in
set_option maxRecDepth 100000 in
theorem k_cProcessor_findAll_b45 {p : Program} {l : Launch} {e : Env} {s : State} {m : MethodId} {args : Array Value} {below : List Frame} {meth : Method} {c : Code} {A : Nat → Prop} (g : Gm) (C : cX p s m args meth c A cX5_findAll (some .boolean) 6 RX5 wq_X5_findAll (gD g) vwCl (cty g) (cz g)) (rec : CS → Int32 → Int32 → Int32 → Int32 → Option (CS × Int32)) (hrec : ∀ (st : CS) (x1 : Int32) (x2 : Int32) (x3 : Int32) (x4 : Int32) (H : Heap) (locs : List Loc) (ls : Array Slot), cI (gD g) vwCl (cw g) A s st H locs → lv_has ls 6 [(0, .ref (gad g 19)), (1, .int x1), (2, .int x2), (3, .int x3), (4, .int x4)] → ∀ (X : CS × Int32), some X = rec st x1 x2 x3 x4 → W p l e rm_cProcessor_findAll s m args below meth c H locs 0 0 (MQ below (cQi (gD g) vwCl (cty g) (cw g) A X.1 X.2) args s 0 0 A) (F0 m 11 ls [])) (st : CS) (x1 : Int32) (x2 : Int32) (x3 : Int32) (x4 : Int32) (y2 : Int32) (y1 : Int32) (y0 : Int32) (H : Heap) (locs : List Loc) (ls : Array Slot) (hI : cI (gD g) vwCl (cw g) A s st H locs) (hl : lv_has ls 6 [(0, .ref (gad g 19)), (1, .int x1), (2, .int x2), (3, .int x3), (4, .int x4)]) (X : CS × Int32) (hF : some X = cProcessor_findAll_b45 rec st x1 x2 x3 x4 y2 y1 y0) : W p l e rm_cProcessor_findAll s m args below meth c H locs 0 0 (MQ below (cQi (gD g) vwCl (cty g) (cw g) A X.1 X.2) args s 0 0 A) (F0 m 45 ls [.int y0, .int y1, .int y2, .ref (gad g 18)]) := by
  obtain ⟨hx, hb, hr, hml, hown, hts, hlocks, hK, hA, hZ, hzo⟩ := id C
  unfold cProcessor_findAll_b45 at hF
  refine cx_Vi (As := [.int y2, .int y1, .int y0]) (rest := []) C (c_cBus_find l g st y2 y1 y0) (cwV 3 hts (gd_V _ mw333 mw334 mw335 mw42 mw336) rfl rfl rfl yd_yX0_find ⟨Nat.le_of_ble_eq_true rfl, Nat.le_of_ble_eq_true rfl⟩) (va_recv hK hI.1 (ci := 0) (q0 := 18) rfl rfl) hI rfl hl.1 rfl (Nat.le_of_ble_eq_true rfl) dX5_findAll_45 (fun H locs hI => ?_)
  refine lv_istore (lv' := [(5, .int (cBus_find st y2 y1 y0)), (0, .ref (gad g 19)), (1, .int x1), (2, .int x2), (3, .int x3), (4, .int x4)]) hx hb dX5_findAll_48 hl (by decide) rfl (fun ls hl => ?_)
  refine lv_iload hx hb dX5_findAll_50 (lv_at hl 0 rfl) ?_
  refine lv_iconst (v := (-1 : Int32)) hx hb dX5_findAll_52 (by decide) ?_
  refine lv_icmp_ne (tgt := 58) hx hb dX5_findAll_53 (by decide) (fun c_53 => ?_) (fun c_53 => ?_)
  · have hF := hF.trans (if_neg c_53)
    refine lv_aload_n hx hb dX5_findAll_58 rfl (lv_at hl 1 rfl) ?_
    refine va_get (D := gD g) (ci := 5) (C := RX5) (T := TX5) (N := 10) (v := .ref (gad g 21)) hx hb hts (fun w h => List.mem_cons_of_mem _ (isX50 w h)) hown hK hI.1 19 rfl rfl 4 (by decide) (hts _ (List.mem_cons_of_mem _ mw111)) (fun _ h9 => h9) rfl dX5_findAll_59 ?_
    refine lv_iload hx hb dX5_findAll_62 (lv_at hl 5 rfl) ?_
    refine lv_bipush (v := (15 : Int32)) hx hb dX5_findAll_64 (by decide) ?_
    refine lv_iand hx hb dX5_findAll_66 ?_
    refine lv_iload hx hb dX5_findAll_67 (lv_at hl 0 rfl) ?_
    refine va_iast (f := (gA st 8)) hx hb hK hI.1 hI.2.1 hI.2.2 21 9 rfl rfl (vin_and _ 4 rfl (by decide) (by decide)) dX5_findAll_69 (fun H locs hP hD hS => ?_)
    have hI : cI (gD g) vwCl (cw g) A s (sA st 8 (upd (gA st 8) (x4 &&& (15 : Int32)).toNatClampNeg (cBus_find st y2 y1 y0))) H locs := ⟨hP, hD, hS⟩
    refine lv_iinc (v := (x4 + (1 : Int32))) (lv' := [(4, .int (x4 + (1 : Int32))), (5, .int (cBus_find st y2 y1 y0)), (0, .ref (gad g 19)), (1, .int x1), (2, .int x2), (3, .int x3)]) hx hb dX5_findAll_70 hl (k := 5) rfl rfl (by decide) rfl (fun ls hl => ?_)
    refine lv_goto (tgt := 11) hx hb dX5_findAll_73 (by decide) ?_
    exact hrec (sA st 8 (upd (gA st 8) (x4 &&& (15 : Int32)).toNatClampNeg (cBus_find st y2 y1 y0))) x1 x2 x3 (x4 + (1 : Int32)) H locs ls hI (lv_sub hl [2, 3, 4, 5, 0] rfl) X hF
  · have hF := hF.trans (if_pos c_53)
    refine lv_iconst (v := (0 : Int32)) hx hb dX5_findAll_56 (by decide) ?_
    have hF := Option.some.inj hF
    exact cx_zret C hI (congrArg Prod.fst hF) (congrArg Prod.snd hF) rfl dX5_findAll_57
def cProcessor_findAll_b11 : Nat → CS → Int32 → Int32 → Int32 → Int32 → Option (CS × Int32)
  | 0, _, _, _, _, _ => none
  | n + 1, st, x1, x2, x3, x4 => (if (x2 ≤ x4) then (some (st, (1 : Int32))) else (if ((cProcessor_is st (1048576 : Int32)) = 0) then (cProcessor_findAll_b45 (cProcessor_findAll_b11 n) st x1 x2 x3 x4 x3 ((x1 + ((4 : Int32) * x4)) &&& (67108860 : Int32)) (1 : Int32)) else (cProcessor_findAll_b45 (cProcessor_findAll_b11 n) st x1 x2 x3 x4 x3 ((x1 + ((4 : Int32) * x4)) &&& (67108860 : Int32)) (0 : Int32))))
set_option maxHeartbeats 4000000 in
set_option maxRecDepth 100000 in
theorem k_cProcessor_findAll_b11 {p : Program} {l : Launch} {e : Env} {s : State} {m : MethodId} {args : Array Value} {below : List Frame} {meth : Method} {c : Code} {A : Nat → Prop} (g : Gm) (C : cX p s m args meth c A cX5_findAll (some .boolean) 6 RX5 wq_X5_findAll (gD g) vwCl (cty g) (cz g)) : ∀ (n : Nat) (st : CS) (x1 : Int32) (x2 : Int32) (x3 : Int32) (x4 : Int32) (H : Heap) (locs : List Loc) (ls : Array Slot), cI (gD g) vwCl (cw g) A s st H locs → lv_has ls 6 [(0, .ref (gad g 19)), (1, .int x1), (2, .int x2), (3, .int x3), (4, .int x4)] → ∀ (X : CS × Int32), some X = cProcessor_findAll_b11 n st x1 x2 x3 x4 → W p l e rm_cProcessor_findAll s m args below meth c H locs 0 0 (MQ below (cQi (gD g) vwCl (cty g) (cw g) A X.1 X.2) args s 0 0 A) (F0 m 11 ls []) := by
  obtain ⟨hx, hb, hr, hml, hown, hts, hlocks, hK, hA, hZ, hzo⟩ := id C
  intro n
  induction n with
  | zero => intro st x1 x2 x3 x4 H locs ls hI hl X hF; exact absurd hF (by simp [cProcessor_findAll_b11])
  | succ n ih =>
    intro st x1 x2 x3 x4 H locs ls hI hl X hF
    rw [cProcessor_findAll_b11] at hF
    refine lv_iload hx hb dX5_findAll_11 (lv_at hl 4 rfl) ?_
    refine lv_iload_n hx hb dX5_findAll_13 rfl (lv_at hl 2 rfl) ?_
    refine lv_icmp_ge (tgt := 76) hx hb dX5_findAll_14 (by decide) (fun c_14 => ?_) (fun c_14 => ?_)
    · have hF := hF.trans (if_pos c_14)
      refine lv_iconst (v := (1 : Int32)) hx hb dX5_findAll_76 (by decide) ?_
      have hF := Option.some.inj hF
      exact cx_zret C hI (congrArg Prod.fst hF) (congrArg Prod.snd hF) rfl dX5_findAll_77
    · have hF := hF.trans (if_neg c_14)
      refine lv_aload_n hx hb dX5_findAll_17 rfl (lv_at hl 0 rfl) ?_
      refine va_get (D := gD g) (ci := 5) (C := RX5) (T := TX5) (N := 10) (v := .ref (gad g 18)) hx hb hts (fun w h => List.mem_cons_of_mem _ (isX50 w h)) hown hK hI.1 19 rfl rfl 1 (by decide) (hts _ (List.mem_cons_of_mem _ mw113)) (fun _ h9 => h9) rfl dX5_findAll_18 ?_
      refine lv_iload_n hx hb dX5_findAll_21 rfl (lv_at hl 3 rfl) ?_
      refine lv_iload_n hx hb dX5_findAll_22 rfl (lv_at hl 1 rfl) ?_
      refine lv_iconst (v := (4 : Int32)) hx hb dX5_findAll_23 (by decide) ?_
      refine lv_iload hx hb dX5_findAll_24 (lv_at hl 4 rfl) ?_
      refine lv_imul hx hb dX5_findAll_26 ?_
      refine lv_iadd hx hb dX5_findAll_27 ?_
      refine lv_ldc (v := (67108860 : Int32)) hx hb hown (hts _ (List.mem_cons_of_mem _ mw415)) dX5_findAll_28 ?_
      refine lv_iand hx hb dX5_findAll_30 ?_
      refine lv_aload_n hx hb dX5_findAll_31 rfl (lv_at hl 0 rfl) ?_
      refine lv_ldc (v := (1048576 : Int32)) hx hb hown (hts _ (List.mem_cons_of_mem _ mw390)) dX5_findAll_32 ?_
      refine cx_Vi (As := [.int (1048576 : Int32)]) (rest := [.int ((x1 + ((4 : Int32) * x4)) &&& (67108860 : Int32)), .int x3, .ref (gad g 18)]) C (c_cProcessor_is l g st (1048576 : Int32)) (cwV 1 hts (gd_V _ mw397 mw398 mw399 mw46 mw400) rfl rfl rfl yd_yX5_is ⟨Nat.le_of_ble_eq_true rfl, Nat.le_of_ble_eq_true rfl⟩) (va_recv hK hI.1 (ci := 5) (q0 := 19) rfl rfl) hI rfl hl.1 rfl (Nat.le_of_ble_eq_true rfl) dX5_findAll_34 (fun H locs hI => ?_)
      refine lv_if_ne (tgt := 44) hx hb dX5_findAll_37 (by decide) (fun c_37 => ?_) (fun c_37 => ?_)
      · have hF := hF.trans (if_neg c_37)
        refine lv_iconst (v := (0 : Int32)) hx hb dX5_findAll_44 (by decide) ?_
        exact k_cProcessor_findAll_b45 g C (cProcessor_findAll_b11 n) ih st x1 x2 x3 x4 x3 ((x1 + ((4 : Int32) * x4)) &&& (67108860 : Int32)) (0 : Int32) H locs ls hI (lv_sub hl [0, 1, 2, 3, 4] rfl) X hF
      · have hF := hF.trans (if_pos c_37)
        refine lv_iconst (v := (1 : Int32)) hx hb dX5_findAll_40 (by decide) ?_
        refine lv_goto (tgt := 45) hx hb dX5_findAll_41 (by decide) ?_
        exact k_cProcessor_findAll_b45 g C (cProcessor_findAll_b11 n) ih st x1 x2 x3 x4 x3 ((x1 + ((4 : Int32) * x4)) &&& (67108860 : Int32)) (1 : Int32) H locs ls hI (lv_sub hl [0, 1, 2, 3, 4] rfl) X hF
def cProcessor_findAll_b11t (st : CS) (x1 : Int32) (x2 : Int32) (x3 : Int32) (x4 : Int32) : CS × Int32 := (cProcessor_findAll_b11 (x2.toNatClampNeg + 1) st x1 x2 x3 x4).getD (st, 0)
theorem e_cProcessor_findAll (x1 x3 : Int32) (K : Nat) (hK : K < 2 ^ 31) : ∀ (n j : Nat) (st : CS), j ≤ K → K - j < n → ∃ r, cProcessor_findAll_b11 n st x1 (nI K) x3 (nI j) = some r := by
  intro n
  induction n with
  | zero => intro j st h1 h2; omega
  | succ n ih =>
    intro j st h1 h2
    rw [cProcessor_findAll_b11]
    rcases Nat.lt_or_ge j K with q | q
    · rw [if_neg (nI_ge q hK)]
      simp only [cProcessor_findAll_b45]
      rw [show nI j + (1 : Int32) = nI (j + 1) from nI_1 j]
      repeat' split
      all_goals first | exact ⟨_, rfl⟩ | exact ih (j + 1) _ q (by omega)
    · have e : j = K := by omega
      subst e
      rw [if_pos (nI_le (Nat.le_refl _) hK)]
      exact ⟨_, rfl⟩
theorem t_cProcessor_findAll_b11 (st : CS) (x1 x2 x3 x4 : Int32) (hz : x4 = 0) : some (cProcessor_findAll_b11t st x1 x2 x3 x4) = cProcessor_findAll_b11 (x2.toNatClampNeg + 1) st x1 x2 x3 x4 := by
  subst hz
  refine some_getD ?_
  by_cases h : x2 < 0
  · rw [cProcessor_findAll_b11, if_pos (Int32.le_of_lt h)]
    exact ⟨_, rfl⟩
  · obtain ⟨j, hj, rfl⟩ := nI_of h
    exact e_cProcessor_findAll x1 x3 j hj _ 0 st (Nat.zero_le _) (by rw [nI_clamp hj]; omega)
set_option maxHeartbeats 4000000 in
set_option maxRecDepth 100000 in
theorem k_cProcessor_findAll_b11t {p : Program} {l : Launch} {e : Env} {s : State} {m : MethodId} {args : Array Value} {below : List Frame} {meth : Method} {c : Code} {A : Nat → Prop} (g : Gm) (C : cX p s m args meth c A cX5_findAll (some .boolean) 6 RX5 wq_X5_findAll (gD g) vwCl (cty g) (cz g)) (st : CS) (x1 : Int32) (x2 : Int32) (x3 : Int32) (x4 : Int32) (H : Heap) (locs : List Loc) (ls : Array Slot) (hI : cI (gD g) vwCl (cw g) A s st H locs) (hl : lv_has ls 6 [(0, .ref (gad g 19)), (1, .int x1), (2, .int x2), (3, .int x3), (4, .int x4)]) (hz : x4 = 0) (X : CS × Int32) (hF : X = cProcessor_findAll_b11t st x1 x2 x3 x4) : W p l e rm_cProcessor_findAll s m args below meth c H locs 0 0 (MQ below (cQi (gD g) vwCl (cty g) (cw g) A X.1 X.2) args s 0 0 A) (F0 m 11 ls []) := by
  refine k_cProcessor_findAll_b11 g C (x2.toNatClampNeg + 1) st x1 x2 x3 x4 H locs ls hI hl X ?_
  rw [hF]
  exact t_cProcessor_findAll_b11 st x1 x2 x3 x4 hz
def cProcessor_findAll (st : CS) (x1 : Int32) (x2 : Int32) : CS × Int32 := (cProcessor_findAll_b11t st x1 x2 (cRegisters_mode st) (0 : Int32))
set_option maxHeartbeats 4000000 in
set_option maxRecDepth 100000 in
theorem k_cProcessor_findAll {p : Program} {l : Launch} {e : Env} {s : State} {m : MethodId} {args : Array Value} {below : List Frame} {meth : Method} {c : Code} {A : Nat → Prop} (g : Gm) (C : cX p s m args meth c A cX5_findAll (some .boolean) 6 RX5 wq_X5_findAll (gD g) vwCl (cty g) (cz g)) (st : CS) (x1 : Int32) (x2 : Int32) (H : Heap) (locs : List Loc) (ls : Array Slot) (hI : cI (gD g) vwCl (cw g) A s st H locs) (hl : lv_has ls 6 [(0, .ref (gad g 19)), (1, .int x1), (2, .int x2)]) (X : CS × Int32) (hF : X = cProcessor_findAll st x1 x2) : W p l e rm_cProcessor_findAll s m args below meth c H locs 0 0 (MQ below (cQi (gD g) vwCl (cty g) (cw g) A X.1 X.2) args s 0 0 A) (F0 m 0 ls []) := by
  obtain ⟨hx, hb, hr, hml, hown, hts, hlocks, hK, hA, hZ, hzo⟩ := id C
  unfold cProcessor_findAll at hF
  refine lv_aload_n hx hb dX5_findAll_0 rfl (lv_at hl 0 rfl) ?_
  refine va_get (D := gD g) (ci := 5) (C := RX5) (T := TX5) (N := 10) (v := .ref (gad g 2)) hx hb hts (fun w h => List.mem_cons_of_mem _ (isX50 w h)) hown hK hI.1 19 rfl rfl 0 (by decide) (hts _ (List.mem_cons_of_mem _ mw112)) (fun _ h9 => h9) rfl dX5_findAll_1 ?_
  refine cx_Vi (As := []) (rest := []) C (c_cRegisters_mode l g st ) (cwV 0 hts (gd_V _ mw329 mw330 mw331 mw14 mw332) rfl rfl rfl yd_yX6_mode ⟨Nat.le_of_ble_eq_true rfl, Nat.le_of_ble_eq_true rfl⟩) (va_recv hK hI.1 (ci := 6) (q0 := 2) rfl rfl) hI rfl hl.1 rfl (Nat.le_of_ble_eq_true rfl) dX5_findAll_4 (fun H locs hI => ?_)
  refine lv_istore_n (lv' := [(3, .int (cRegisters_mode st)), (0, .ref (gad g 19)), (1, .int x1), (2, .int x2)]) hx hb dX5_findAll_7 rfl hl (by decide) rfl (fun ls hl => ?_)
  refine lv_iconst (v := (0 : Int32)) hx hb dX5_findAll_8 (by decide) ?_
  refine lv_istore (lv' := [(4, .int (0 : Int32)), (3, .int (cRegisters_mode st)), (0, .ref (gad g 19)), (1, .int x1), (2, .int x2)]) hx hb dX5_findAll_9 hl (by decide) rfl (fun ls hl => ?_)
  exact k_cProcessor_findAll_b11t g C st x1 x2 (cRegisters_mode st) (0 : Int32) H locs ls hI (lv_sub hl [2, 3, 4, 1, 0] rfl) rfl X hF
set_option maxHeartbeats 4000000 in
set_option maxRecDepth 100000 in
theorem c_cProcessor_findAll (l : Launch) (g : Gm) (st : CS) (x1 : Int32) (x2 : Int32) : Mi l yX5_findAll wq_X5_findAll rm_cProcessor_findAll (gD g) vwCl (cty g) (cw g) (cz g) [.ref (gad g 19), .int x1, .int x2] st (cProcessor_findAll st x1 x2).1 (cProcessor_findAll st x1 x2).2 := by
  intro sz
  refine Met.ofW (cc := cX5_findAll) (maxL := 6) (ret := (some .boolean)) (by decide) rfl ?_
  intro p e s m args below meth c s₁ B hml hv
  obtain ⟨rfl, hsz, hP, hK, hD0, hZ⟩ := hv
  subst hsz
  have hl := lv_entry ([.ref (gad g 19), .int x1, .int x2]) (n := 6) (Nat.le_of_ble_eq_true rfl)
  rw [lg_entry_eq]
  generalize (lg_sl ([.ref (gad g 19), .int x1, .int x2]) ++ List.replicate (6 - (lg_sl ([.ref (gad g 19), .int x1, .int x2])).length) Slot.unset).toArray = ls at hl ⊢
  exact k_cProcessor_findAll g ⟨B.exec, B.bytes, B.returns, hml, findClass_of_methodNamed B.named, atoms_spec (ws := wq_X5_findAll) B.pre, B.notSynchronized, hK, fun q h => Or.inr h, hZ, cz_ok g⟩ st x1 x2 _ _ ls ⟨hP, hD0.self, va_S.rf⟩ hl _ rfl
abbrev wq_X5_loadMany : List Cond := .code yX5_loadMany cX5_loadMany 6 none :: wAll
theorem yd_yX5_loadMany : yX5_loadMany.cls = RX5 ∧ yX5_loadMany.cls ≠ "java/lang/invoke/MethodHandle" ∧ yX5_loadMany.cls ≠ "java/lang/invoke/VarHandle" ∧ (parseMethodDescriptor yX5_loadMany.desc).map (fun d => d.parameters.length) = some 1 := by decide +kernel
abbrev rm_cProcessor_loadMany : Room := { frames := 3, cells := 0, slots := 0, locals := 66 }
def cProcessor_loadMany_b141 (st : CS) (x5 : Int32) : CS := (if ((cProcessor_is st (4194304 : Int32)) = 0) then st else (cRegisters_setSigns st x5))
set_option maxHeartbeats 4000000 in
set_option maxRecDepth 100000 in
theorem k_cProcessor_loadMany_b141 {p : Program} {l : Launch} {e : Env} {s : State} {m : MethodId} {args : Array Value} {below : List Frame} {meth : Method} {c : Code} {A : Nat → Prop} (g : Gm) (C : cX p s m args meth c A cX5_loadMany none 6 RX5 wq_X5_loadMany (gD g) vwCl (cty g) (cz g)) (st : CS) (x5 : Int32) (H : Heap) (locs : List Loc) (ls : Array Slot) (hI : cI (gD g) vwCl (cw g) A s st H locs) (hl : lv_has ls 6 [(0, .ref (gad g 19)), (5, .int x5)]) (X : CS) (hF : X = cProcessor_loadMany_b141 st x5) : W p l e rm_cProcessor_loadMany s m args below meth c H locs 0 0 (MQ below (cQv (gD g) vwCl (cty g) (cw g) A X) args s 0 0 A) (F0 m 141 ls []) := by
  obtain ⟨hx, hb, hr, hml, hown, hts, hlocks, hK, hA, hZ, hzo⟩ := id C
  unfold cProcessor_loadMany_b141 at hF
  refine lv_aload_n hx hb dX5_loadMany_141 rfl (lv_at hl 0 rfl) ?_
  refine lv_ldc (v := (4194304 : Int32)) hx hb hown (hts _ (List.mem_cons_of_mem _ mw525)) dX5_loadMany_142 ?_
  refine cx_Vi (As := [.int (4194304 : Int32)]) (rest := []) C (c_cProcessor_is l g st (4194304 : Int32)) (cwV 1 hts (gd_V _ mw397 mw398 mw399 mw46 mw400) rfl rfl rfl yd_yX5_is ⟨Nat.le_of_ble_eq_true rfl, Nat.le_of_ble_eq_true rfl⟩) (va_recv hK hI.1 (ci := 5) (q0 := 19) rfl rfl) hI rfl hl.1 rfl (Nat.le_of_ble_eq_true rfl) dX5_loadMany_144 (fun H locs hI => ?_)
  refine lv_if_eq (tgt := 159) hx hb dX5_loadMany_147 (by decide) (fun c_147 => ?_) (fun c_147 => ?_)
  · have hF := hF.trans (if_pos c_147)
    exact cx_vret C hI hF dX5_loadMany_159
  · have hF := hF.trans (if_neg c_147)
    refine lv_aload_n hx hb dX5_loadMany_150 rfl (lv_at hl 0 rfl) ?_
    refine va_get (D := gD g) (ci := 5) (C := RX5) (T := TX5) (N := 10) (v := .ref (gad g 2)) hx hb hts (fun w h => List.mem_cons_of_mem _ (isX50 w h)) hown hK hI.1 19 rfl rfl 0 (by decide) (hts _ (List.mem_cons_of_mem _ mw112)) (fun _ h9 => h9) rfl dX5_loadMany_151 ?_
    refine lv_iload hx hb dX5_loadMany_154 (lv_at hl 1 rfl) ?_
    refine cx_Vv (As := [.int x5]) (rest := []) C (c_cRegisters_setSigns l g st x5) (cwV 1 hts (gd_V _ mw485 mw486 mw487 mw14 mw488) rfl rfl rfl yd_yX6_setSigns ⟨Nat.le_of_ble_eq_true rfl, Nat.le_of_ble_eq_true rfl⟩) (va_recv hK hI.1 (ci := 6) (q0 := 2) rfl rfl) hI rfl hl.1 rfl (Nat.le_of_ble_eq_true rfl) dX5_loadMany_156 (fun H locs hI => ?_)
    exact cx_vret C hI hF dX5_loadMany_159
def cProcessor_loadMany_b130 (st : CS) (y0 : Int32) : CS := (cProcessor_loadMany_b141 (cRegisters_goTo st y0) y0)
set_option maxHeartbeats 4000000 in
set_option maxRecDepth 100000 in
theorem k_cProcessor_loadMany_b130 {p : Program} {l : Launch} {e : Env} {s : State} {m : MethodId} {args : Array Value} {below : List Frame} {meth : Method} {c : Code} {A : Nat → Prop} (g : Gm) (C : cX p s m args meth c A cX5_loadMany none 6 RX5 wq_X5_loadMany (gD g) vwCl (cty g) (cz g)) (st : CS) (y0 : Int32) (H : Heap) (locs : List Loc) (ls : Array Slot) (hI : cI (gD g) vwCl (cw g) A s st H locs) (hl : lv_has ls 6 [(0, .ref (gad g 19))]) (X : CS) (hF : X = cProcessor_loadMany_b130 st y0) : W p l e rm_cProcessor_loadMany s m args below meth c H locs 0 0 (MQ below (cQv (gD g) vwCl (cty g) (cw g) A X) args s 0 0 A) (F0 m 130 ls [.int y0]) := by
  obtain ⟨hx, hb, hr, hml, hown, hts, hlocks, hK, hA, hZ, hzo⟩ := id C
  unfold cProcessor_loadMany_b130 at hF
  refine lv_istore (lv' := [(5, .int y0), (0, .ref (gad g 19))]) hx hb dX5_loadMany_130 hl (by decide) rfl (fun ls hl => ?_)
  refine lv_aload_n hx hb dX5_loadMany_132 rfl (lv_at hl 1 rfl) ?_
  refine va_get (D := gD g) (ci := 5) (C := RX5) (T := TX5) (N := 10) (v := .ref (gad g 2)) hx hb hts (fun w h => List.mem_cons_of_mem _ (isX50 w h)) hown hK hI.1 19 rfl rfl 0 (by decide) (hts _ (List.mem_cons_of_mem _ mw112)) (fun _ h9 => h9) rfl dX5_loadMany_133 ?_
  refine lv_iload hx hb dX5_loadMany_136 (lv_at hl 0 rfl) ?_
  refine cx_Vv (As := [.int y0]) (rest := []) C (c_cRegisters_goTo l g st y0) (cwV 1 hts (gd_V _ mw361 mw362 mw363 mw14 mw364) rfl rfl rfl yd_yX6_goTo ⟨Nat.le_of_ble_eq_true rfl, Nat.le_of_ble_eq_true rfl⟩) (va_recv hK hI.1 (ci := 6) (q0 := 2) rfl rfl) hI rfl hl.1 rfl (Nat.le_of_ble_eq_true rfl) dX5_loadMany_138 (fun H locs hI => ?_)
  exact k_cProcessor_loadMany_b141 g C (cRegisters_goTo st y0) y0 H locs ls hI (lv_sub hl [1, 0] rfl) X hF
def cProcessor_loadMany_b97 (rec : CS → Int32 → Int32 → Int32 → Int32 → Option (CS)) (st : CS) (x2 : Int32) (x3 : Int32) (x4 : Int32) (x5 : Int32) : Option (CS) := (rec st x2 x3 x4 (x5 + (1 : Int32)))
set_option maxHeartbeats 4000000 in
set_option maxRecDepth 100000 in
theorem k_cProcessor_loadMany_b97 {p : Program} {l : Launch} {e : Env} {s : State} {m : MethodId} {args : Array Value} {below : List Frame} {meth : Method} {c : Code} {A : Nat → Prop} (g : Gm) (C : cX p s m args meth c A cX5_loadMany none 6 RX5 wq_X5_loadMany (gD g) vwCl (cty g) (cz g)) (rec : CS → Int32 → Int32 → Int32 → Int32 → Option (CS)) (hrec : ∀ (st : CS) (x2 : Int32) (x3 : Int32) (x4 : Int32) (x5 : Int32) (H : Heap) (locs : List Loc) (ls : Array Slot), cI (gD g) vwCl (cw g) A s st H locs → lv_has ls 6 [(0, .ref (gad g 19)), (2, .int x2), (3, .int x3), (4, .int x4), (5, .int x5)] → ∀ (X : CS), some X = rec st x2 x3 x4 x5 → W p l e rm_cProcessor_loadMany s m args below meth c H locs 0 0 (MQ below (cQv (gD g) vwCl (cty g) (cw g) A X) args s 0 0 A) (F0 m 41 ls [])) (st : CS) (x2 : Int32) (x3 : Int32) (x4 : Int32) (x5 : Int32) (H : Heap) (locs : List Loc) (ls : Array Slot) (hI : cI (gD g) vwCl (cw g) A s st H locs) (hl : lv_has ls 6 [(0, .ref (gad g 19)), (2, .int x2), (3, .int x3), (4, .int x4), (5, .int x5)]) (X : CS) (hF : some X = cProcessor_loadMany_b97 rec st x2 x3 x4 x5) : W p l e rm_cProcessor_loadMany s m args below meth c H locs 0 0 (MQ below (cQv (gD g) vwCl (cty g) (cw g) A X) args s 0 0 A) (F0 m 97 ls []) := by
  obtain ⟨hx, hb, hr, hml, hown, hts, hlocks, hK, hA, hZ, hzo⟩ := id C
  unfold cProcessor_loadMany_b97 at hF
  refine lv_iinc (v := (x5 + (1 : Int32))) (lv' := [(5, .int (x5 + (1 : Int32))), (0, .ref (gad g 19)), (2, .int x2), (3, .int x3), (4, .int x4)]) hx hb dX5_loadMany_97 hl (k := 4) rfl rfl (by decide) rfl (fun ls hl => ?_)
  refine lv_goto (tgt := 41) hx hb dX5_loadMany_100 (by decide) ?_
  exact hrec st x2 x3 x4 (x5 + (1 : Int32)) H locs ls hI (lv_sub hl [1, 2, 3, 4, 0] rfl) X hF
def cProcessor_loadMany_b87 (rec : CS → Int32 → Int32 → Int32 → Int32 → Option (CS)) (st : CS) (x2 : Int32) (x3 : Int32) (x4 : Int32) (x5 : Int32) : Option (CS) := (cProcessor_loadMany_b97 rec st x2 ((x3 + (4 : Int32)) &&& (67108860 : Int32)) (x4 + (1 : Int32)) x5)
set_option maxHeartbeats 4000000 in
set_option maxRecDepth 100000 in
theorem k_cProcessor_loadMany_b87 {p : Program} {l : Launch} {e : Env} {s : State} {m : MethodId} {args : Array Value} {below : List Frame} {meth : Method} {c : Code} {A : Nat → Prop} (g : Gm) (C : cX p s m args meth c A cX5_loadMany none 6 RX5 wq_X5_loadMany (gD g) vwCl (cty g) (cz g)) (rec : CS → Int32 → Int32 → Int32 → Int32 → Option (CS)) (hrec : ∀ (st : CS) (x2 : Int32) (x3 : Int32) (x4 : Int32) (x5 : Int32) (H : Heap) (locs : List Loc) (ls : Array Slot), cI (gD g) vwCl (cw g) A s st H locs → lv_has ls 6 [(0, .ref (gad g 19)), (2, .int x2), (3, .int x3), (4, .int x4), (5, .int x5)] → ∀ (X : CS), some X = rec st x2 x3 x4 x5 → W p l e rm_cProcessor_loadMany s m args below meth c H locs 0 0 (MQ below (cQv (gD g) vwCl (cty g) (cw g) A X) args s 0 0 A) (F0 m 41 ls [])) (st : CS) (x2 : Int32) (x3 : Int32) (x4 : Int32) (x5 : Int32) (H : Heap) (locs : List Loc) (ls : Array Slot) (hI : cI (gD g) vwCl (cw g) A s st H locs) (hl : lv_has ls 6 [(0, .ref (gad g 19)), (2, .int x2), (3, .int x3), (4, .int x4), (5, .int x5)]) (X : CS) (hF : some X = cProcessor_loadMany_b87 rec st x2 x3 x4 x5) : W p l e rm_cProcessor_loadMany s m args below meth c H locs 0 0 (MQ below (cQv (gD g) vwCl (cty g) (cw g) A X) args s 0 0 A) (F0 m 87 ls []) := by
  obtain ⟨hx, hb, hr, hml, hown, hts, hlocks, hK, hA, hZ, hzo⟩ := id C
  unfold cProcessor_loadMany_b87 at hF
  refine lv_iload_n hx hb dX5_loadMany_87 rfl (lv_at hl 2 rfl) ?_
  refine lv_iconst (v := (4 : Int32)) hx hb dX5_loadMany_88 (by decide) ?_
  refine lv_iadd hx hb dX5_loadMany_89 ?_
  refine lv_ldc (v := (67108860 : Int32)) hx hb hown (hts _ (List.mem_cons_of_mem _ mw415)) dX5_loadMany_90 ?_
  refine lv_iand hx hb dX5_loadMany_92 ?_
  refine lv_istore_n (lv' := [(3, .int ((x3 + (4 : Int32)) &&& (67108860 : Int32))), (0, .ref (gad g 19)), (2, .int x2), (4, .int x4), (5, .int x5)]) hx hb dX5_loadMany_93 rfl hl (by decide) rfl (fun ls hl => ?_)
  refine lv_iinc (v := (x4 + (1 : Int32))) (lv' := [(4, .int (x4 + (1 : Int32))), (3, .int ((x3 + (4 : Int32)) &&& (67108860 : Int32))), (0, .ref (gad g 19)), (2, .int x2), (5, .int x5)]) hx hb dX5_loadMany_94 hl (k := 3) rfl rfl (by decide) rfl (fun ls hl => ?_)
  exact k_cProcessor_loadMany_b97 g C rec hrec st x2 ((x3 + (4 : Int32)) &&& (67108860 : Int32)) (x4 + (1 : Int32)) x5 H locs ls hI (lv_sub hl [2, 3, 1, 0, 4] rfl) X hF
def cProcessor_loadMany_b84 (rec : CS → Int32 → Int32 → Int32 → Int32 → Option (CS)) (st : CS) (x2 : Int32) (x3 : Int32) (x4 : Int32) (x5 : Int32) (y2 : Int32) (y1 : Int32) (y0 : Int32) : Option (CS) := (cProcessor_loadMany_b87 rec (cRegisters_become st y2 y1 y0) x2 x3 x4 x5)
set_option maxHeartbeats 4000000 in
set_option maxRecDepth 100000 in
theorem k_cProcessor_loadMany_b84 {p : Program} {l : Launch} {e : Env} {s : State} {m : MethodId} {args : Array Value} {below : List Frame} {meth : Method} {c : Code} {A : Nat → Prop} (g : Gm) (C : cX p s m args meth c A cX5_loadMany none 6 RX5 wq_X5_loadMany (gD g) vwCl (cty g) (cz g)) (rec : CS → Int32 → Int32 → Int32 → Int32 → Option (CS)) (hrec : ∀ (st : CS) (x2 : Int32) (x3 : Int32) (x4 : Int32) (x5 : Int32) (H : Heap) (locs : List Loc) (ls : Array Slot), cI (gD g) vwCl (cw g) A s st H locs → lv_has ls 6 [(0, .ref (gad g 19)), (2, .int x2), (3, .int x3), (4, .int x4), (5, .int x5)] → ∀ (X : CS), some X = rec st x2 x3 x4 x5 → W p l e rm_cProcessor_loadMany s m args below meth c H locs 0 0 (MQ below (cQv (gD g) vwCl (cty g) (cw g) A X) args s 0 0 A) (F0 m 41 ls [])) (st : CS) (x2 : Int32) (x3 : Int32) (x4 : Int32) (x5 : Int32) (y2 : Int32) (y1 : Int32) (y0 : Int32) (H : Heap) (locs : List Loc) (ls : Array Slot) (hI : cI (gD g) vwCl (cw g) A s st H locs) (hl : lv_has ls 6 [(0, .ref (gad g 19)), (2, .int x2), (3, .int x3), (4, .int x4), (5, .int x5)]) (X : CS) (hF : some X = cProcessor_loadMany_b84 rec st x2 x3 x4 x5 y2 y1 y0) : W p l e rm_cProcessor_loadMany s m args below meth c H locs 0 0 (MQ below (cQv (gD g) vwCl (cty g) (cw g) A X) args s 0 0 A) (F0 m 84 ls [.int y0, .int y1, .int y2, .ref (gad g 2)]) := by
  obtain ⟨hx, hb, hr, hml, hown, hts, hlocks, hK, hA, hZ, hzo⟩ := id C
  unfold cProcessor_loadMany_b84 at hF
  refine cx_Vv (As := [.int y2, .int y1, .int y0]) (rest := []) C (c_cRegisters_become l g st y2 y1 y0) (cwV 3 hts (gd_V _ mw416 mw417 mw418 mw14 mw419) rfl rfl rfl yd_yX6_become ⟨Nat.le_of_ble_eq_true rfl, Nat.le_of_ble_eq_true rfl⟩) (va_recv hK hI.1 (ci := 6) (q0 := 2) rfl rfl) hI rfl hl.1 rfl (Nat.le_of_ble_eq_true rfl) dX5_loadMany_84 (fun H locs hI => ?_)
  exact k_cProcessor_loadMany_b87 g C rec hrec (cRegisters_become st y2 y1 y0) x2 x3 x4 x5 H locs ls hI (lv_sub hl [0, 1, 2, 3, 4] rfl) X hF
def cProcessor_loadMany_b41 : Nat → CS → Int32 → Int32 → Int32 → Int32 → Option (CS)
  | 0, _, _, _, _, _ => none
  | n + 1, st, x2, x3, x4, x5 => (if ((15 : Int32) ≤ x5) then (if ((cProcessor_is st (32768 : Int32)) = 0) then (some st) else (some (cProcessor_loadMany_b130 (cBus_read st ((gA st 8) (x4 &&& (15 : Int32)).toNatClampNeg) x3).1 (cBus_read st ((gA st 8) (x4 &&& (15 : Int32)).toNatClampNeg) x3).2))) else (if ((cProcessor_is st ((1 : Int32) <<< (x5 &&& 31))) = 0) then (cProcessor_loadMany_b97 (cProcessor_loadMany_b41 n) st x2 x3 x4 x5) else (cProcessor_loadMany_b84 (cProcessor_loadMany_b41 n) (cBus_read st ((gA st 8) (x4 &&& (15 : Int32)).toNatClampNeg) x3).1 x2 x3 x4 x5 x2 x5 (cBus_read st ((gA st 8) (x4 &&& (15 : Int32)).toNatClampNeg) x3).2)))
set_option maxHeartbeats 4000000 in
set_option maxRecDepth 100000 in
theorem k_cProcessor_loadMany_b41 {p : Program} {l : Launch} {e : Env} {s : State} {m : MethodId} {args : Array Value} {below : List Frame} {meth : Method} {c : Code} {A : Nat → Prop} (g : Gm) (C : cX p s m args meth c A cX5_loadMany none 6 RX5 wq_X5_loadMany (gD g) vwCl (cty g) (cz g)) : ∀ (n : Nat) (st : CS) (x2 : Int32) (x3 : Int32) (x4 : Int32) (x5 : Int32) (H : Heap) (locs : List Loc) (ls : Array Slot), cI (gD g) vwCl (cw g) A s st H locs → lv_has ls 6 [(0, .ref (gad g 19)), (2, .int x2), (3, .int x3), (4, .int x4), (5, .int x5)] → ∀ (X : CS), some X = cProcessor_loadMany_b41 n st x2 x3 x4 x5 → W p l e rm_cProcessor_loadMany s m args below meth c H locs 0 0 (MQ below (cQv (gD g) vwCl (cty g) (cw g) A X) args s 0 0 A) (F0 m 41 ls []) := by
  obtain ⟨hx, hb, hr, hml, hown, hts, hlocks, hK, hA, hZ, hzo⟩ := id C
  intro n
  induction n with
  | zero => intro st x2 x3 x4 x5 H locs ls hI hl X hF; exact absurd hF (by simp [cProcessor_loadMany_b41])
  | succ n ih =>
    intro st x2 x3 x4 x5 H locs ls hI hl X hF
    rw [cProcessor_loadMany_b41] at hF
    refine lv_iload hx hb dX5_loadMany_41 (lv_at hl 4 rfl) ?_
    refine lv_bipush (v := (15 : Int32)) hx hb dX5_loadMany_43 (by decide) ?_
    refine lv_icmp_ge (tgt := 103) hx hb dX5_loadMany_45 (by decide) (fun c_45 => ?_) (fun c_45 => ?_)
    · have hF := hF.trans (if_pos c_45)
      refine lv_aload_n hx hb dX5_loadMany_103 rfl (lv_at hl 0 rfl) ?_
      refine lv_ldc (v := (32768 : Int32)) hx hb hown (hts _ (List.mem_cons_of_mem _ mw646)) dX5_loadMany_104 ?_
      refine cx_Vi (As := [.int (32768 : Int32)]) (rest := []) C (c_cProcessor_is l g st (32768 : Int32)) (cwV 1 hts (gd_V _ mw397 mw398 mw399 mw46 mw400) rfl rfl rfl yd_yX5_is ⟨Nat.le_of_ble_eq_true rfl, Nat.le_of_ble_eq_true rfl⟩) (va_recv hK hI.1 (ci := 5) (q0 := 19) rfl rfl) hI rfl hl.1 rfl (Nat.le_of_ble_eq_true rfl) dX5_loadMany_106 (fun H locs hI => ?_)
      refine lv_if_eq (tgt := 159) hx hb dX5_loadMany_109 (by decide) (fun c_109 => ?_) (fun c_109 => ?_)
      · have hF := hF.trans (if_pos c_109)
        have hF := Option.some.inj hF
        exact cx_vret C hI hF dX5_loadMany_159
      · have hF := hF.trans (if_neg c_109)
        refine lv_aload_n hx hb dX5_loadMany_112 rfl (lv_at hl 0 rfl) ?_
        refine va_get (D := gD g) (ci := 5) (C := RX5) (T := TX5) (N := 10) (v := .ref (gad g 18)) hx hb hts (fun w h => List.mem_cons_of_mem _ (isX50 w h)) hown hK hI.1 19 rfl rfl 1 (by decide) (hts _ (List.mem_cons_of_mem _ mw113)) (fun _ h9 => h9) rfl dX5_loadMany_113 ?_
        refine lv_aload_n hx hb dX5_loadMany_116 rfl (lv_at hl 0 rfl) ?_
        refine va_get (D := gD g) (ci := 5) (C := RX5) (T := TX5) (N := 10) (v := .ref (gad g 21)) hx hb hts (fun w h => List.mem_cons_of_mem _ (isX50 w h)) hown hK hI.1 19 rfl rfl 4 (by decide) (hts _ (List.mem_cons_of_mem _ mw111)) (fun _ h9 => h9) rfl dX5_loadMany_117 ?_
        refine lv_iload hx hb dX5_loadMany_120 (lv_at hl 3 rfl) ?_
        refine lv_bipush (v := (15 : Int32)) hx hb dX5_loadMany_122 (by decide) ?_
        refine lv_iand hx hb dX5_loadMany_124 ?_
        refine va_iald (f := (gA st 8)) hx hb hK hI.1 21 9 rfl rfl (vin_and _ 4 rfl (by decide) (by decide)) dX5_loadMany_125 ?_
        refine lv_iload_n hx hb dX5_loadMany_126 rfl (lv_at hl 2 rfl) ?_
        refine cx_Vi (As := [.int ((gA st 8) (x4 &&& (15 : Int32)).toNatClampNeg), .int x3]) (rest := []) C (c_cBus_read l g st ((gA st 8) (x4 &&& (15 : Int32)).toNatClampNeg) x3) (cwV 2 hts (gd_V _ mw530 mw531 mw532 mw42 mw533) rfl rfl rfl yd_yX0_read ⟨Nat.le_of_ble_eq_true rfl, Nat.le_of_ble_eq_true rfl⟩) (va_recv hK hI.1 (ci := 0) (q0 := 18) rfl rfl) hI rfl hl.1 rfl (Nat.le_of_ble_eq_true rfl) dX5_loadMany_127 (fun H locs hI => ?_)
        have hF := Option.some.inj hF
        exact k_cProcessor_loadMany_b130 g C (cBus_read st ((gA st 8) (x4 &&& (15 : Int32)).toNatClampNeg) x3).1 (cBus_read st ((gA st 8) (x4 &&& (15 : Int32)).toNatClampNeg) x3).2 H locs ls hI (lv_sub hl [0] rfl) X hF
    · have hF := hF.trans (if_neg c_45)
      refine lv_aload_n hx hb dX5_loadMany_48 rfl (lv_at hl 0 rfl) ?_
      refine lv_iconst (v := (1 : Int32)) hx hb dX5_loadMany_49 (by decide) ?_
      refine lv_iload hx hb dX5_loadMany_50 (lv_at hl 4 rfl) ?_
      refine lv_ishl hx hb dX5_loadMany_52 ?_
      refine cx_Vi (As := [.int ((1 : Int32) <<< (x5 &&& 31))]) (rest := []) C (c_cProcessor_is l g st ((1 : Int32) <<< (x5 &&& 31))) (cwV 1 hts (gd_V _ mw397 mw398 mw399 mw46 mw400) rfl rfl rfl yd_yX5_is ⟨Nat.le_of_ble_eq_true rfl, Nat.le_of_ble_eq_true rfl⟩) (va_recv hK hI.1 (ci := 5) (q0 := 19) rfl rfl) hI rfl hl.1 rfl (Nat.le_of_ble_eq_true rfl) dX5_loadMany_53 (fun H locs hI => ?_)
      refine lv_if_eq (tgt := 97) hx hb dX5_loadMany_56 (by decide) (fun c_56 => ?_) (fun c_56 => ?_)
      · have hF := hF.trans (if_pos c_56)
        exact k_cProcessor_loadMany_b97 g C (cProcessor_loadMany_b41 n) ih st x2 x3 x4 x5 H locs ls hI (lv_sub hl [0, 1, 2, 3, 4] rfl) X hF
      · have hF := hF.trans (if_neg c_56)
        refine lv_aload_n hx hb dX5_loadMany_59 rfl (lv_at hl 0 rfl) ?_
        refine va_get (D := gD g) (ci := 5) (C := RX5) (T := TX5) (N := 10) (v := .ref (gad g 2)) hx hb hts (fun w h => List.mem_cons_of_mem _ (isX50 w h)) hown hK hI.1 19 rfl rfl 0 (by decide) (hts _ (List.mem_cons_of_mem _ mw112)) (fun _ h9 => h9) rfl dX5_loadMany_60 ?_
        refine lv_iload_n hx hb dX5_loadMany_63 rfl (lv_at hl 1 rfl) ?_
        refine lv_iload hx hb dX5_loadMany_64 (lv_at hl 4 rfl) ?_
        refine lv_aload_n hx hb dX5_loadMany_66 rfl (lv_at hl 0 rfl) ?_
        refine va_get (D := gD g) (ci := 5) (C := RX5) (T := TX5) (N := 10) (v := .ref (gad g 18)) hx hb hts (fun w h => List.mem_cons_of_mem _ (isX50 w h)) hown hK hI.1 19 rfl rfl 1 (by decide) (hts _ (List.mem_cons_of_mem _ mw113)) (fun _ h9 => h9) rfl dX5_loadMany_67 ?_
        refine lv_aload_n hx hb dX5_loadMany_70 rfl (lv_at hl 0 rfl) ?_
        refine va_get (D := gD g) (ci := 5) (C := RX5) (T := TX5) (N := 10) (v := .ref (gad g 21)) hx hb hts (fun w h => List.mem_cons_of_mem _ (isX50 w h)) hown hK hI.1 19 rfl rfl 4 (by decide) (hts _ (List.mem_cons_of_mem _ mw111)) (fun _ h9 => h9) rfl dX5_loadMany_71 ?_
        refine lv_iload hx hb dX5_loadMany_74 (lv_at hl 3 rfl) ?_
        refine lv_bipush (v := (15 : Int32)) hx hb dX5_loadMany_76 (by decide) ?_
        refine lv_iand hx hb dX5_loadMany_78 ?_
        refine va_iald (f := (gA st 8)) hx hb hK hI.1 21 9 rfl rfl (vin_and _ 4 rfl (by decide) (by decide)) dX5_loadMany_79 ?_
        refine lv_iload_n hx hb dX5_loadMany_80 rfl (lv_at hl 2 rfl) ?_
        refine cx_Vi (As := [.int ((gA st 8) (x4 &&& (15 : Int32)).toNatClampNeg), .int x3]) (rest := [.int x5, .int x2, .ref (gad g 2)]) C (c_cBus_read l g st ((gA st 8) (x4 &&& (15 : Int32)).toNatClampNeg) x3) (cwV 2 hts (gd_V _ mw530 mw531 mw532 mw42 mw533) rfl rfl rfl yd_yX0_read ⟨Nat.le_of_ble_eq_true rfl, Nat.le_of_ble_eq_true rfl⟩) (va_recv hK hI.1 (ci := 0) (q0 := 18) rfl rfl) hI rfl hl.1 rfl (Nat.le_of_ble_eq_true rfl) dX5_loadMany_81 (fun H locs hI => ?_)
        exact k_cProcessor_loadMany_b84 g C (cProcessor_loadMany_b41 n) ih (cBus_read st ((gA st 8) (x4 &&& (15 : Int32)).toNatClampNeg) x3).1 x2 x3 x4 x5 x2 x5 (cBus_read st ((gA st 8) (x4 &&& (15 : Int32)).toNatClampNeg) x3).2 H locs ls hI (lv_sub hl [0, 1, 2, 3, 4] rfl) X hF
def cProcessor_loadMany_b41t (st : CS) (x2 : Int32) (x3 : Int32) (x4 : Int32) (x5 : Int32) : CS := (cProcessor_loadMany_b41 (17) st x2 x3 x4 x5).getD st
theorem e_cProcessor_loadMany_b41 : ∀ (n j : Nat) (st : CS) (x2 x3 x4 : Int32), j ≤ 15 → 15 - j < n → ∃ r, cProcessor_loadMany_b41 n st x2 x3 x4 (nI j) = some r := by
  intro n
  induction n with
  | zero => intro j st x2 x3 x4 h1 h2; omega
  | succ n ih =>
    intro j st x2 x3 x4 h1 h2
    rw [cProcessor_loadMany_b41]
    rcases Nat.lt_or_ge j 15 with q | q
    · rw [if_neg (show ¬ (15 : Int32) ≤ nI j from nI_ge q (by decide))]
      simp only [cProcessor_loadMany_b97, cProcessor_loadMany_b87, cProcessor_loadMany_b84]
      rw [show nI j + (1 : Int32) = nI (j + 1) from nI_1 j]
      repeat' split
      all_goals first | exact ⟨_, rfl⟩ | exact ih (j + 1) _ _ _ _ q (by omega)
    · have e : j = 15 := by omega
      subst e
      rw [if_pos (show (15 : Int32) ≤ nI 15 by decide)]
      repeat' split
      all_goals exact ⟨_, rfl⟩
theorem t_cProcessor_loadMany_b41 (st : CS) (x2 x3 x4 x5 : Int32) (hz : x5 = 0) : some (cProcessor_loadMany_b41t st x2 x3 x4 x5) = cProcessor_loadMany_b41 (17) st x2 x3 x4 x5 := by
  subst hz
  exact some_getD (e_cProcessor_loadMany_b41 _ 0 st x2 x3 x4 (Nat.zero_le _) (by decide))
set_option maxHeartbeats 4000000 in
set_option maxRecDepth 100000 in
theorem k_cProcessor_loadMany_b41t {p : Program} {l : Launch} {e : Env} {s : State} {m : MethodId} {args : Array Value} {below : List Frame} {meth : Method} {c : Code} {A : Nat → Prop} (g : Gm) (C : cX p s m args meth c A cX5_loadMany none 6 RX5 wq_X5_loadMany (gD g) vwCl (cty g) (cz g)) (st : CS) (x2 : Int32) (x3 : Int32) (x4 : Int32) (x5 : Int32) (H : Heap) (locs : List Loc) (ls : Array Slot) (hI : cI (gD g) vwCl (cw g) A s st H locs) (hl : lv_has ls 6 [(0, .ref (gad g 19)), (2, .int x2), (3, .int x3), (4, .int x4), (5, .int x5)]) (hz : x5 = 0) (X : CS) (hF : X = cProcessor_loadMany_b41t st x2 x3 x4 x5) : W p l e rm_cProcessor_loadMany s m args below meth c H locs 0 0 (MQ below (cQv (gD g) vwCl (cty g) (cw g) A X) args s 0 0 A) (F0 m 41 ls []) := by
  refine k_cProcessor_loadMany_b41 g C (17) st x2 x3 x4 x5 H locs ls hI hl X ?_
  rw [hF]
  exact t_cProcessor_loadMany_b41 st x2 x3 x4 x5 hz
def cProcessor_loadMany_b29 (st : CS) (x1 : Int32) (y0 : Int32) : CS := (cProcessor_loadMany_b41t st y0 (x1 &&& (67108860 : Int32)) (0 : Int32) (0 : Int32))
set_option maxHeartbeats 4000000 in
set_option maxRecDepth 100000 in
theorem k_cProcessor_loadMany_b29 {p : Program} {l : Launch} {e : Env} {s : State} {m : MethodId} {args : Array Value} {below : List Frame} {meth : Method} {c : Code} {A : Nat → Prop} (g : Gm) (C : cX p s m args meth c A cX5_loadMany none 6 RX5 wq_X5_loadMany (gD g) vwCl (cty g) (cz g)) (st : CS) (x1 : Int32) (y0 : Int32) (H : Heap) (locs : List Loc) (ls : Array Slot) (hI : cI (gD g) vwCl (cw g) A s st H locs) (hl : lv_has ls 6 [(0, .ref (gad g 19)), (1, .int x1)]) (X : CS) (hF : X = cProcessor_loadMany_b29 st x1 y0) : W p l e rm_cProcessor_loadMany s m args below meth c H locs 0 0 (MQ below (cQv (gD g) vwCl (cty g) (cw g) A X) args s 0 0 A) (F0 m 29 ls [.int y0]) := by
  obtain ⟨hx, hb, hr, hml, hown, hts, hlocks, hK, hA, hZ, hzo⟩ := id C
  unfold cProcessor_loadMany_b29 at hF
  refine lv_istore_n (lv' := [(2, .int y0), (0, .ref (gad g 19)), (1, .int x1)]) hx hb dX5_loadMany_29 rfl hl (by decide) rfl (fun ls hl => ?_)
  refine lv_iload_n hx hb dX5_loadMany_30 rfl (lv_at hl 2 rfl) ?_
  refine lv_ldc (v := (67108860 : Int32)) hx hb hown (hts _ (List.mem_cons_of_mem _ mw415)) dX5_loadMany_31 ?_
  refine lv_iand hx hb dX5_loadMany_33 ?_
  refine lv_istore_n (lv' := [(3, .int (x1 &&& (67108860 : Int32))), (2, .int y0), (0, .ref (gad g 19)), (1, .int x1)]) hx hb dX5_loadMany_34 rfl hl (by decide) rfl (fun ls hl => ?_)
  refine lv_iconst (v := (0 : Int32)) hx hb dX5_loadMany_35 (by decide) ?_
  refine lv_istore (lv' := [(4, .int (0 : Int32)), (3, .int (x1 &&& (67108860 : Int32))), (2, .int y0), (0, .ref (gad g 19)), (1, .int x1)]) hx hb dX5_loadMany_36 hl (by decide) rfl (fun ls hl => ?_)
  refine lv_iconst (v := (0 : Int32)) hx hb dX5_loadMany_38 (by decide) ?_
  refine lv_istore (lv' := [(5, .int (0 : Int32)), (4, .int (0 : Int32)), (3, .int (x1 &&& (67108860 : Int32))), (2, .int y0), (0, .ref (gad g 19)), (1, .int x1)]) hx hb dX5_loadMany_39 hl (by decide) rfl (fun ls hl => ?_)
  exact k_cProcessor_loadMany_b41t g C st y0 (x1 &&& (67108860 : Int32)) (0 : Int32) (0 : Int32) H locs ls hI (lv_sub hl [4, 3, 2, 1, 0] rfl) rfl X hF
def cProcessor_loadMany_b22 (st : CS) (x1 : Int32) : CS := (cProcessor_loadMany_b29 st x1 (cRegisters_mode st))
set_option maxHeartbeats 4000000 in
set_option maxRecDepth 100000 in
theorem k_cProcessor_loadMany_b22 {p : Program} {l : Launch} {e : Env} {s : State} {m : MethodId} {args : Array Value} {below : List Frame} {meth : Method} {c : Code} {A : Nat → Prop} (g : Gm) (C : cX p s m args meth c A cX5_loadMany none 6 RX5 wq_X5_loadMany (gD g) vwCl (cty g) (cz g)) (st : CS) (x1 : Int32) (H : Heap) (locs : List Loc) (ls : Array Slot) (hI : cI (gD g) vwCl (cw g) A s st H locs) (hl : lv_has ls 6 [(0, .ref (gad g 19)), (1, .int x1)]) (X : CS) (hF : X = cProcessor_loadMany_b22 st x1) : W p l e rm_cProcessor_loadMany s m args below meth c H locs 0 0 (MQ below (cQv (gD g) vwCl (cty g) (cw g) A X) args s 0 0 A) (F0 m 22 ls []) := by
  obtain ⟨hx, hb, hr, hml, hown, hts, hlocks, hK, hA, hZ, hzo⟩ := id C
  unfold cProcessor_loadMany_b22 at hF
  refine lv_aload_n hx hb dX5_loadMany_22 rfl (lv_at hl 0 rfl) ?_
  refine va_get (D := gD g) (ci := 5) (C := RX5) (T := TX5) (N := 10) (v := .ref (gad g 2)) hx hb hts (fun w h => List.mem_cons_of_mem _ (isX50 w h)) hown hK hI.1 19 rfl rfl 0 (by decide) (hts _ (List.mem_cons_of_mem _ mw112)) (fun _ h9 => h9) rfl dX5_loadMany_23 ?_
  refine cx_Vi (As := []) (rest := []) C (c_cRegisters_mode l g st ) (cwV 0 hts (gd_V _ mw329 mw330 mw331 mw14 mw332) rfl rfl rfl yd_yX6_mode ⟨Nat.le_of_ble_eq_true rfl, Nat.le_of_ble_eq_true rfl⟩) (va_recv hK hI.1 (ci := 6) (q0 := 2) rfl rfl) hI rfl hl.1 rfl (Nat.le_of_ble_eq_true rfl) dX5_loadMany_26 (fun H locs hI => ?_)
  exact k_cProcessor_loadMany_b29 g C st x1 (cRegisters_mode st) H locs ls hI (lv_sub hl [0, 1] rfl) X hF
def cProcessor_loadMany (st : CS) (x1 : Int32) : CS := (if ((cProcessor_is st (4194304 : Int32)) = 0) then (cProcessor_loadMany_b22 st x1) else (if ((cProcessor_is st (32768 : Int32)) = 0) then (cProcessor_loadMany_b29 st x1 (0 : Int32)) else (cProcessor_loadMany_b22 st x1)))
set_option maxHeartbeats 4000000 in
set_option maxRecDepth 100000 in
theorem k_cProcessor_loadMany {p : Program} {l : Launch} {e : Env} {s : State} {m : MethodId} {args : Array Value} {below : List Frame} {meth : Method} {c : Code} {A : Nat → Prop} (g : Gm) (C : cX p s m args meth c A cX5_loadMany none 6 RX5 wq_X5_loadMany (gD g) vwCl (cty g) (cz g)) (st : CS) (x1 : Int32) (H : Heap) (locs : List Loc) (ls : Array Slot) (hI : cI (gD g) vwCl (cw g) A s st H locs) (hl : lv_has ls 6 [(0, .ref (gad g 19)), (1, .int x1)]) (X : CS) (hF : X = cProcessor_loadMany st x1) : W p l e rm_cProcessor_loadMany s m args below meth c H locs 0 0 (MQ below (cQv (gD g) vwCl (cty g) (cw g) A X) args s 0 0 A) (F0 m 0 ls []) := by
  obtain ⟨hx, hb, hr, hml, hown, hts, hlocks, hK, hA, hZ, hzo⟩ := id C
  unfold cProcessor_loadMany at hF
  refine lv_aload_n hx hb dX5_loadMany_0 rfl (lv_at hl 0 rfl) ?_
  refine lv_ldc (v := (4194304 : Int32)) hx hb hown (hts _ (List.mem_cons_of_mem _ mw525)) dX5_loadMany_1 ?_
  refine cx_Vi (As := [.int (4194304 : Int32)]) (rest := []) C (c_cProcessor_is l g st (4194304 : Int32)) (cwV 1 hts (gd_V _ mw397 mw398 mw399 mw46 mw400) rfl rfl rfl yd_yX5_is ⟨Nat.le_of_ble_eq_true rfl, Nat.le_of_ble_eq_true rfl⟩) (va_recv hK hI.1 (ci := 5) (q0 := 19) rfl rfl) hI rfl hl.1 rfl (Nat.le_of_ble_eq_true rfl) dX5_loadMany_3 (fun H locs hI => ?_)
  refine lv_if_eq (tgt := 22) hx hb dX5_loadMany_6 (by decide) (fun c_6 => ?_) (fun c_6 => ?_)
  · have hF := hF.trans (if_pos c_6)
    exact k_cProcessor_loadMany_b22 g C st x1 H locs ls hI (lv_sub hl [0, 1] rfl) X hF
  · have hF := hF.trans (if_neg c_6)
    refine lv_aload_n hx hb dX5_loadMany_9 rfl (lv_at hl 0 rfl) ?_
    refine lv_ldc (v := (32768 : Int32)) hx hb hown (hts _ (List.mem_cons_of_mem _ mw646)) dX5_loadMany_10 ?_
    refine cx_Vi (As := [.int (32768 : Int32)]) (rest := []) C (c_cProcessor_is l g st (32768 : Int32)) (cwV 1 hts (gd_V _ mw397 mw398 mw399 mw46 mw400) rfl rfl rfl yd_yX5_is ⟨Nat.le_of_ble_eq_true rfl, Nat.le_of_ble_eq_true rfl⟩) (va_recv hK hI.1 (ci := 5) (q0 := 19) rfl rfl) hI rfl hl.1 rfl (Nat.le_of_ble_eq_true rfl) dX5_loadMany_12 (fun H locs hI => ?_)
    refine lv_if_ne (tgt := 22) hx hb dX5_loadMany_15 (by decide) (fun c_15 => ?_) (fun c_15 => ?_)
    · have hF := hF.trans (if_neg c_15)
      exact k_cProcessor_loadMany_b22 g C st x1 H locs ls hI (lv_sub hl [0, 1] rfl) X hF
    · have hF := hF.trans (if_pos c_15)
      refine lv_iconst (v := (0 : Int32)) hx hb dX5_loadMany_18 (by decide) ?_
      refine lv_goto (tgt := 29) hx hb dX5_loadMany_19 (by decide) ?_
      exact k_cProcessor_loadMany_b29 g C st x1 (0 : Int32) H locs ls hI (lv_sub hl [0, 1] rfl) X hF
set_option maxHeartbeats 4000000 in
set_option maxRecDepth 100000 in
theorem c_cProcessor_loadMany (l : Launch) (g : Gm) (st : CS) (x1 : Int32) : Mv l yX5_loadMany wq_X5_loadMany rm_cProcessor_loadMany (gD g) vwCl (cty g) (cw g) (cz g) [.ref (gad g 19), .int x1] st (cProcessor_loadMany st x1) := by
  intro sz
  refine Met.ofW (cc := cX5_loadMany) (maxL := 6) (ret := none) (by decide) rfl ?_
  intro p e s m args below meth c s₁ B hml hv
  obtain ⟨rfl, hsz, hP, hK, hD0, hZ⟩ := hv
  subst hsz
  have hl := lv_entry ([.ref (gad g 19), .int x1]) (n := 6) (Nat.le_of_ble_eq_true rfl)
  rw [lg_entry_eq]
  generalize (lg_sl ([.ref (gad g 19), .int x1]) ++ List.replicate (6 - (lg_sl ([.ref (gad g 19), .int x1])).length) Slot.unset).toArray = ls at hl ⊢
  exact k_cProcessor_loadMany g ⟨B.exec, B.bytes, B.returns, hml, findClass_of_methodNamed B.named, atoms_spec (ws := wq_X5_loadMany) B.pre, B.notSynchronized, hK, fun q h => Or.inr h, hZ, cz_ok g⟩ st x1 _ _ ls ⟨hP, hD0.self, va_S.rf⟩ hl _ rfl
abbrev wq_X5_storeMany : List Cond := .code yX5_storeMany cX5_storeMany 11 none :: wAll
theorem yd_yX5_storeMany : yX5_storeMany.cls = RX5 ∧ yX5_storeMany.cls ≠ "java/lang/invoke/MethodHandle" ∧ yX5_storeMany.cls ≠ "java/lang/invoke/VarHandle" ∧ (parseMethodDescriptor yX5_storeMany.desc).map (fun d => d.parameters.length) = some 2 := by decide +kernel
abbrev rm_cProcessor_storeMany : Room := { frames := 3, cells := 0, slots := 0, locals := 68 }
def cProcessor_storeMany_b167 (rec : CS → Int32 → Int32 → Int32 → Int32 → Int32 → Int32 → Int32 → Option (CS)) (st : CS) (x2 : Int32) (x3 : Int32) (x4 : Int32) (x5 : Int32) (x6 : Int32) (x7 : Int32) (x8 : Int32) : Option (CS) := (rec st x2 x3 x4 x5 x6 x7 (x8 + (1 : Int32)))
set_option maxHeartbeats 4000000 in
set_option maxRecDepth 100000 in
theorem k_cProcessor_storeMany_b167 {p : Program} {l : Launch} {e : Env} {s : State} {m : MethodId} {args : Array Value} {below : List Frame} {meth : Method} {c : Code} {A : Nat → Prop} (g : Gm) (C : cX p s m args meth c A cX5_storeMany none 11 RX5 wq_X5_storeMany (gD g) vwCl (cty g) (cz g)) (rec : CS → Int32 → Int32 → Int32 → Int32 → Int32 → Int32 → Int32 → Option (CS)) (hrec : ∀ (st : CS) (x2 : Int32) (x3 : Int32) (x4 : Int32) (x5 : Int32) (x6 : Int32) (x7 : Int32) (x8 : Int32) (H : Heap) (locs : List Loc) (ls : Array Slot), cI (gD g) vwCl (cw g) A s st H locs → lv_has ls 11 [(0, .ref (gad g 19)), (2, .int x2), (3, .int x3), (4, .int x4), (5, .int x5), (6, .int x6), (7, .int x7), (8, .int x8)] → ∀ (X : CS), some X = rec st x2 x3 x4 x5 x6 x7 x8 → W p l e rm_cProcessor_storeMany s m args below meth c H locs 0 0 (MQ below (cQv (gD g) vwCl (cty g) (cw g) A X) args s 0 0 A) (F0 m 44 ls [])) (st : CS) (x2 : Int32) (x3 : Int32) (x4 : Int32) (x5 : Int32) (x6 : Int32) (x7 : Int32) (x8 : Int32) (H : Heap) (locs : List Loc) (ls : Array Slot) (hI : cI (gD g) vwCl (cw g) A s st H locs) (hl : lv_has ls 11 [(0, .ref (gad g 19)), (2, .int x2), (3, .int x3), (4, .int x4), (5, .int x5), (6, .int x6), (7, .int x7), (8, .int x8)]) (X : CS) (hF : some X = cProcessor_storeMany_b167 rec st x2 x3 x4 x5 x6 x7 x8) : W p l e rm_cProcessor_storeMany s m args below meth c H locs 0 0 (MQ below (cQv (gD g) vwCl (cty g) (cw g) A X) args s 0 0 A) (F0 m 167 ls []) := by
  obtain ⟨hx, hb, hr, hml, hown, hts, hlocks, hK, hA, hZ, hzo⟩ := id C
  unfold cProcessor_storeMany_b167 at hF
  refine lv_iinc (v := (x8 + (1 : Int32))) (lv' := [(8, .int (x8 + (1 : Int32))), (0, .ref (gad g 19)), (2, .int x2), (3, .int x3), (4, .int x4), (5, .int x5), (6, .int x6), (7, .int x7)]) hx hb dX5_storeMany_167 hl (k := 7) rfl rfl (by decide) rfl (fun ls hl => ?_)
  refine lv_goto (tgt := 44) hx hb dX5_storeMany_170 (by decide) ?_
  exact hrec st x2 x3 x4 x5 x6 x7 (x8 + (1 : Int32)) H locs ls hI (lv_sub hl [1, 2, 3, 4, 5, 6, 7, 0] rfl) X hF
def cProcessor_storeMany_b155 (rec : CS → Int32 → Int32 → Int32 → Int32 → Int32 → Int32 → Int32 → Option (CS)) (st : CS) (x2 : Int32) (x3 : Int32) (x4 : Int32) (x5 : Int32) (x6 : Int32) (x7 : Int32) (x8 : Int32) : Option (CS) := (cProcessor_storeMany_b167 rec st x2 x3 x4 x5 ((x6 + (4 : Int32)) &&& (67108860 : Int32)) (x7 + (1 : Int32)) x8)
set_option maxHeartbeats 4000000 in
set_option maxRecDepth 100000 in
theorem k_cProcessor_storeMany_b155 {p : Program} {l : Launch} {e : Env} {s : State} {m : MethodId} {args : Array Value} {below : List Frame} {meth : Method} {c : Code} {A : Nat → Prop} (g : Gm) (C : cX p s m args meth c A cX5_storeMany none 11 RX5 wq_X5_storeMany (gD g) vwCl (cty g) (cz g)) (rec : CS → Int32 → Int32 → Int32 → Int32 → Int32 → Int32 → Int32 → Option (CS)) (hrec : ∀ (st : CS) (x2 : Int32) (x3 : Int32) (x4 : Int32) (x5 : Int32) (x6 : Int32) (x7 : Int32) (x8 : Int32) (H : Heap) (locs : List Loc) (ls : Array Slot), cI (gD g) vwCl (cw g) A s st H locs → lv_has ls 11 [(0, .ref (gad g 19)), (2, .int x2), (3, .int x3), (4, .int x4), (5, .int x5), (6, .int x6), (7, .int x7), (8, .int x8)] → ∀ (X : CS), some X = rec st x2 x3 x4 x5 x6 x7 x8 → W p l e rm_cProcessor_storeMany s m args below meth c H locs 0 0 (MQ below (cQv (gD g) vwCl (cty g) (cw g) A X) args s 0 0 A) (F0 m 44 ls [])) (st : CS) (x2 : Int32) (x3 : Int32) (x4 : Int32) (x5 : Int32) (x6 : Int32) (x7 : Int32) (x8 : Int32) (H : Heap) (locs : List Loc) (ls : Array Slot) (hI : cI (gD g) vwCl (cw g) A s st H locs) (hl : lv_has ls 11 [(0, .ref (gad g 19)), (2, .int x2), (3, .int x3), (4, .int x4), (5, .int x5), (6, .int x6), (7, .int x7), (8, .int x8)]) (X : CS) (hF : some X = cProcessor_storeMany_b155 rec st x2 x3 x4 x5 x6 x7 x8) : W p l e rm_cProcessor_storeMany s m args below meth c H locs 0 0 (MQ below (cQv (gD g) vwCl (cty g) (cw g) A X) args s 0 0 A) (F0 m 155 ls []) := by
  obtain ⟨hx, hb, hr, hml, hown, hts, hlocks, hK, hA, hZ, hzo⟩ := id C
  unfold cProcessor_storeMany_b155 at hF
  refine lv_iload hx hb dX5_storeMany_155 (lv_at hl 5 rfl) ?_
  refine lv_iconst (v := (4 : Int32)) hx hb dX5_storeMany_157 (by decide) ?_
  refine lv_iadd hx hb dX5_storeMany_158 ?_
  refine lv_ldc (v := (67108860 : Int32)) hx hb hown (hts _ (List.mem_cons_of_mem _ mw415)) dX5_storeMany_159 ?_
  refine lv_iand hx hb dX5_storeMany_161 ?_
  refine lv_istore (lv' := [(6, .int ((x6 + (4 : Int32)) &&& (67108860 : Int32))), (0, .ref (gad g 19)), (2, .int x2), (3, .int x3), (4, .int x4), (5, .int x5), (7, .int x7), (8, .int x8)]) hx hb dX5_storeMany_162 hl (by decide) rfl (fun ls hl => ?_)
  refine lv_iinc (v := (x7 + (1 : Int32))) (lv' := [(7, .int (x7 + (1 : Int32))), (6, .int ((x6 + (4 : Int32)) &&& (67108860 : Int32))), (0, .ref (gad g 19)), (2, .int x2), (3, .int x3), (4, .int x4), (5, .int x5), (8, .int x8)]) hx hb dX5_storeMany_164 hl (k := 6) rfl rfl (by decide) rfl (fun ls hl => ?_)
  exact k_cProcessor_storeMany_b167 g C rec hrec st x2 x3 x4 x5 ((x6 + (4 : Int32)) &&& (67108860 : Int32)) (x7 + (1 : Int32)) x8 H locs ls hI (lv_sub hl [2, 3, 4, 5, 6, 1, 0, 7] rfl) X hF
def cProcessor_storeMany_b132 (rec : CS → Int32 → Int32 → Int32 → Int32 → Int32 → Int32 → Int32 → Option (CS)) (st : CS) (x2 : Int32) (x3 : Int32) (x4 : Int32) (x5 : Int32) (x6 : Int32) (x7 : Int32) (x8 : Int32) (y0 : Int32) : Option (CS) := (cProcessor_storeMany_b155 rec (cBus_write st ((gA st 8) (x7 &&& (15 : Int32)).toNatClampNeg) x6 y0) x2 x3 x4 x5 x6 x7 x8)
set_option maxHeartbeats 4000000 in
set_option maxRecDepth 100000 in
theorem k_cProcessor_storeMany_b132 {p : Program} {l : Launch} {e : Env} {s : State} {m : MethodId} {args : Array Value} {below : List Frame} {meth : Method} {c : Code} {A : Nat → Prop} (g : Gm) (C : cX p s m args meth c A cX5_storeMany none 11 RX5 wq_X5_storeMany (gD g) vwCl (cty g) (cz g)) (rec : CS → Int32 → Int32 → Int32 → Int32 → Int32 → Int32 → Int32 → Option (CS)) (hrec : ∀ (st : CS) (x2 : Int32) (x3 : Int32) (x4 : Int32) (x5 : Int32) (x6 : Int32) (x7 : Int32) (x8 : Int32) (H : Heap) (locs : List Loc) (ls : Array Slot), cI (gD g) vwCl (cw g) A s st H locs → lv_has ls 11 [(0, .ref (gad g 19)), (2, .int x2), (3, .int x3), (4, .int x4), (5, .int x5), (6, .int x6), (7, .int x7), (8, .int x8)] → ∀ (X : CS), some X = rec st x2 x3 x4 x5 x6 x7 x8 → W p l e rm_cProcessor_storeMany s m args below meth c H locs 0 0 (MQ below (cQv (gD g) vwCl (cty g) (cw g) A X) args s 0 0 A) (F0 m 44 ls [])) (st : CS) (x2 : Int32) (x3 : Int32) (x4 : Int32) (x5 : Int32) (x6 : Int32) (x7 : Int32) (x8 : Int32) (y0 : Int32) (H : Heap) (locs : List Loc) (ls : Array Slot) (hI : cI (gD g) vwCl (cw g) A s st H locs) (hl : lv_has ls 11 [(0, .ref (gad g 19)), (2, .int x2), (3, .int x3), (4, .int x4), (5, .int x5), (6, .int x6), (7, .int x7), (8, .int x8)]) (X : CS) (hF : some X = cProcessor_storeMany_b132 rec st x2 x3 x4 x5 x6 x7 x8 y0) : W p l e rm_cProcessor_storeMany s m args below meth c H locs 0 0 (MQ below (cQv (gD g) vwCl (cty g) (cw g) A X) args s 0 0 A) (F0 m 132 ls [.int y0]) := by
  obtain ⟨hx, hb, hr, hml, hown, hts, hlocks, hK, hA, hZ, hzo⟩ := id C
  unfold cProcessor_storeMany_b132 at hF
  refine lv_istore (lv' := [(10, .int y0), (0, .ref (gad g 19)), (2, .int x2), (3, .int x3), (4, .int x4), (5, .int x5), (6, .int x6), (7, .int x7), (8, .int x8)]) hx hb dX5_storeMany_132 hl (by decide) rfl (fun ls hl => ?_)
  refine lv_aload_n hx hb dX5_storeMany_134 rfl (lv_at hl 1 rfl) ?_
  refine va_get (D := gD g) (ci := 5) (C := RX5) (T := TX5) (N := 10) (v := .ref (gad g 18)) hx hb hts (fun w h => List.mem_cons_of_mem _ (isX50 w h)) hown hK hI.1 19 rfl rfl 1 (by decide) (hts _ (List.mem_cons_of_mem _ mw113)) (fun _ h9 => h9) rfl dX5_storeMany_135 ?_
  refine lv_aload_n hx hb dX5_storeMany_138 rfl (lv_at hl 1 rfl) ?_
  refine va_get (D := gD g) (ci := 5) (C := RX5) (T := TX5) (N := 10) (v := .ref (gad g 21)) hx hb hts (fun w h => List.mem_cons_of_mem _ (isX50 w h)) hown hK hI.1 19 rfl rfl 4 (by decide) (hts _ (List.mem_cons_of_mem _ mw111)) (fun _ h9 => h9) rfl dX5_storeMany_139 ?_
  refine lv_iload hx hb dX5_storeMany_142 (lv_at hl 7 rfl) ?_
  refine lv_bipush (v := (15 : Int32)) hx hb dX5_storeMany_144 (by decide) ?_
  refine lv_iand hx hb dX5_storeMany_146 ?_
  refine va_iald (f := (gA st 8)) hx hb hK hI.1 21 9 rfl rfl (vin_and _ 4 rfl (by decide) (by decide)) dX5_storeMany_147 ?_
  refine lv_iload hx hb dX5_storeMany_148 (lv_at hl 6 rfl) ?_
  refine lv_iload hx hb dX5_storeMany_150 (lv_at hl 0 rfl) ?_
  refine cx_Vv (As := [.int ((gA st 8) (x7 &&& (15 : Int32)).toNatClampNeg), .int x6, .int y0]) (rest := []) C (c_cBus_write l g st ((gA st 8) (x7 &&& (15 : Int32)).toNatClampNeg) x6 y0) (cwV 3 hts (gd_V _ mw640 mw589 mw590 mw42 mw591) rfl rfl rfl yd_yX0_write ⟨Nat.le_of_ble_eq_true rfl, Nat.le_of_ble_eq_true rfl⟩) (va_recv hK hI.1 (ci := 0) (q0 := 18) rfl rfl) hI rfl hl.1 rfl (Nat.le_of_ble_eq_true rfl) dX5_storeMany_152 (fun H locs hI => ?_)
  exact k_cProcessor_storeMany_b155 g C rec hrec (cBus_write st ((gA st 8) (x7 &&& (15 : Int32)).toNatClampNeg) x6 y0) x2 x3 x4 x5 x6 x7 x8 H locs ls hI (lv_sub hl [1, 2, 3, 4, 5, 6, 7, 8] rfl) X hF
def cProcessor_storeMany_b94 (rec : CS → Int32 → Int32 → Int32 → Int32 → Int32 → Int32 → Int32 → Option (CS)) (st : CS) (x2 : Int32) (x3 : Int32) (x4 : Int32) (x5 : Int32) (x6 : Int32) (x7 : Int32) (x8 : Int32) (y0 : Int32) : Option (CS) := (if (x8 = (15 : Int32)) then (cProcessor_storeMany_b132 rec st x2 x3 x4 x5 x6 x7 x8 (cProcessor_withSigns st (12 : Int32))) else (if (y0 = 0) then (cProcessor_storeMany_b132 rec st x2 x3 x4 x5 x6 x7 x8 (cRegisters_of st x4 x8)) else (cProcessor_storeMany_b132 rec st x2 x3 x4 x5 x6 x7 x8 x2)))
set_option maxHeartbeats 4000000 in
set_option maxRecDepth 100000 in
theorem k_cProcessor_storeMany_b94 {p : Program} {l : Launch} {e : Env} {s : State} {m : MethodId} {args : Array Value} {below : List Frame} {meth : Method} {c : Code} {A : Nat → Prop} (g : Gm) (C : cX p s m args meth c A cX5_storeMany none 11 RX5 wq_X5_storeMany (gD g) vwCl (cty g) (cz g)) (rec : CS → Int32 → Int32 → Int32 → Int32 → Int32 → Int32 → Int32 → Option (CS)) (hrec : ∀ (st : CS) (x2 : Int32) (x3 : Int32) (x4 : Int32) (x5 : Int32) (x6 : Int32) (x7 : Int32) (x8 : Int32) (H : Heap) (locs : List Loc) (ls : Array Slot), cI (gD g) vwCl (cw g) A s st H locs → lv_has ls 11 [(0, .ref (gad g 19)), (2, .int x2), (3, .int x3), (4, .int x4), (5, .int x5), (6, .int x6), (7, .int x7), (8, .int x8)] → ∀ (X : CS), some X = rec st x2 x3 x4 x5 x6 x7 x8 → W p l e rm_cProcessor_storeMany s m args below meth c H locs 0 0 (MQ below (cQv (gD g) vwCl (cty g) (cw g) A X) args s 0 0 A) (F0 m 44 ls [])) (st : CS) (x2 : Int32) (x3 : Int32) (x4 : Int32) (x5 : Int32) (x6 : Int32) (x7 : Int32) (x8 : Int32) (y0 : Int32) (H : Heap) (locs : List Loc) (ls : Array Slot) (hI : cI (gD g) vwCl (cw g) A s st H locs) (hl : lv_has ls 11 [(0, .ref (gad g 19)), (2, .int x2), (3, .int x3), (4, .int x4), (5, .int x5), (6, .int x6), (7, .int x7), (8, .int x8)]) (X : CS) (hF : some X = cProcessor_storeMany_b94 rec st x2 x3 x4 x5 x6 x7 x8 y0) : W p l e rm_cProcessor_storeMany s m args below meth c H locs 0 0 (MQ below (cQv (gD g) vwCl (cty g) (cw g) A X) args s 0 0 A) (F0 m 94 ls [.int y0]) := by
  obtain ⟨hx, hb, hr, hml, hown, hts, hlocks, hK, hA, hZ, hzo⟩ := id C
  unfold cProcessor_storeMany_b94 at hF
  refine lv_istore (lv' := [(9, .int y0), (0, .ref (gad g 19)), (2, .int x2), (3, .int x3), (4, .int x4), (5, .int x5), (6, .int x6), (7, .int x7), (8, .int x8)]) hx hb dX5_storeMany_94 hl (by decide) rfl (fun ls hl => ?_)
  refine lv_iload hx hb dX5_storeMany_96 (lv_at hl 8 rfl) ?_
  refine lv_bipush (v := (15 : Int32)) hx hb dX5_storeMany_98 (by decide) ?_
  refine lv_icmp_ne (tgt := 112) hx hb dX5_storeMany_100 (by decide) (fun c_100 => ?_) (fun c_100 => ?_)
  · have hF := hF.trans (if_neg c_100)
    refine lv_iload hx hb dX5_storeMany_112 (lv_at hl 0 rfl) ?_
    refine lv_if_eq (tgt := 121) hx hb dX5_storeMany_114 (by decide) (fun c_114 => ?_) (fun c_114 => ?_)
    · have hF := hF.trans (if_pos c_114)
      refine lv_aload_n hx hb dX5_storeMany_121 rfl (lv_at hl 1 rfl) ?_
      refine va_get (D := gD g) (ci := 5) (C := RX5) (T := TX5) (N := 10) (v := .ref (gad g 2)) hx hb hts (fun w h => List.mem_cons_of_mem _ (isX50 w h)) hown hK hI.1 19 rfl rfl 0 (by decide) (hts _ (List.mem_cons_of_mem _ mw112)) (fun _ h9 => h9) rfl dX5_storeMany_122 ?_
      refine lv_iload hx hb dX5_storeMany_125 (lv_at hl 4 rfl) ?_
      refine lv_iload hx hb dX5_storeMany_127 (lv_at hl 8 rfl) ?_
      refine cx_Vi (As := [.int x4, .int x8]) (rest := []) C (c_cRegisters_of l g st x4 x8) (cwV 2 hts (gd_V _ mw448 mw449 mw450 mw14 mw451) rfl rfl rfl yd_yX6_of ⟨Nat.le_of_ble_eq_true rfl, Nat.le_of_ble_eq_true rfl⟩) (va_recv hK hI.1 (ci := 6) (q0 := 2) rfl rfl) hI rfl hl.1 rfl (Nat.le_of_ble_eq_true rfl) dX5_storeMany_129 (fun H locs hI => ?_)
      exact k_cProcessor_storeMany_b132 g C rec hrec st x2 x3 x4 x5 x6 x7 x8 (cRegisters_of st x4 x8) H locs ls hI (lv_sub hl [1, 2, 3, 4, 5, 6, 7, 8] rfl) X hF
    · have hF := hF.trans (if_neg c_114)
      refine lv_iload_n hx hb dX5_storeMany_117 rfl (lv_at hl 2 rfl) ?_
      refine lv_goto (tgt := 132) hx hb dX5_storeMany_118 (by decide) ?_
      exact k_cProcessor_storeMany_b132 g C rec hrec st x2 x3 x4 x5 x6 x7 x8 x2 H locs ls hI (lv_sub hl [1, 2, 3, 4, 5, 6, 7, 8] rfl) X hF
  · have hF := hF.trans (if_pos c_100)
    refine lv_aload_n hx hb dX5_storeMany_103 rfl (lv_at hl 1 rfl) ?_
    refine lv_bipush (v := (12 : Int32)) hx hb dX5_storeMany_104 (by decide) ?_
    refine cx_Vi (As := [.int (12 : Int32)]) (rest := []) C (c_cProcessor_withSigns l g st (12 : Int32)) (cwV 1 hts (gd_V _ mw406 mw407 mw408 mw46 mw409) rfl rfl rfl yd_yX5_withSigns ⟨Nat.le_of_ble_eq_true rfl, Nat.le_of_ble_eq_true rfl⟩) (va_recv hK hI.1 (ci := 5) (q0 := 19) rfl rfl) hI rfl hl.1 rfl (Nat.le_of_ble_eq_true rfl) dX5_storeMany_106 (fun H locs hI => ?_)
    refine lv_goto (tgt := 132) hx hb dX5_storeMany_109 (by decide) ?_
    exact k_cProcessor_storeMany_b132 g C rec hrec st x2 x3 x4 x5 x6 x7 x8 (cProcessor_withSigns st (12 : Int32)) H locs ls hI (lv_sub hl [1, 2, 3, 4, 5, 6, 7, 8] rfl) X hF
def cProcessor_storeMany_b93 (rec : CS → Int32 → Int32 → Int32 → Int32 → Int32 → Int32 → Int32 → Option (CS)) (st : CS) (x2 : Int32) (x3 : Int32) (x4 : Int32) (x5 : Int32) (x6 : Int32) (x7 : Int32) (x8 : Int32) : Option (CS) := (cProcessor_storeMany_b94 rec st x2 x3 x4 x5 x6 x7 x8 (0 : Int32))
set_option maxHeartbeats 4000000 in
set_option maxRecDepth 100000 in
theorem k_cProcessor_storeMany_b93 {p : Program} {l : Launch} {e : Env} {s : State} {m : MethodId} {args : Array Value} {below : List Frame} {meth : Method} {c : Code} {A : Nat → Prop} (g : Gm) (C : cX p s m args meth c A cX5_storeMany none 11 RX5 wq_X5_storeMany (gD g) vwCl (cty g) (cz g)) (rec : CS → Int32 → Int32 → Int32 → Int32 → Int32 → Int32 → Int32 → Option (CS)) (hrec : ∀ (st : CS) (x2 : Int32) (x3 : Int32) (x4 : Int32) (x5 : Int32) (x6 : Int32) (x7 : Int32) (x8 : Int32) (H : Heap) (locs : List Loc) (ls : Array Slot), cI (gD g) vwCl (cw g) A s st H locs → lv_has ls 11 [(0, .ref (gad g 19)), (2, .int x2), (3, .int x3), (4, .int x4), (5, .int x5), (6, .int x6), (7, .int x7), (8, .int x8)] → ∀ (X : CS), some X = rec st x2 x3 x4 x5 x6 x7 x8 → W p l e rm_cProcessor_storeMany s m args below meth c H locs 0 0 (MQ below (cQv (gD g) vwCl (cty g) (cw g) A X) args s 0 0 A) (F0 m 44 ls [])) (st : CS) (x2 : Int32) (x3 : Int32) (x4 : Int32) (x5 : Int32) (x6 : Int32) (x7 : Int32) (x8 : Int32) (H : Heap) (locs : List Loc) (ls : Array Slot) (hI : cI (gD g) vwCl (cw g) A s st H locs) (hl : lv_has ls 11 [(0, .ref (gad g 19)), (2, .int x2), (3, .int x3), (4, .int x4), (5, .int x5), (6, .int x6), (7, .int x7), (8, .int x8)]) (X : CS) (hF : some X = cProcessor_storeMany_b93 rec st x2 x3 x4 x5 x6 x7 x8) : W p l e rm_cProcessor_storeMany s m args below meth c H locs 0 0 (MQ below (cQv (gD g) vwCl (cty g) (cw g) A X) args s 0 0 A) (F0 m 93 ls []) := by
  obtain ⟨hx, hb, hr, hml, hown, hts, hlocks, hK, hA, hZ, hzo⟩ := id C
  unfold cProcessor_storeMany_b93 at hF
  refine lv_iconst (v := (0 : Int32)) hx hb dX5_storeMany_93 (by decide) ?_
  exact k_cProcessor_storeMany_b94 g C rec hrec st x2 x3 x4 x5 x6 x7 x8 (0 : Int32) H locs ls hI (lv_sub hl [0, 1, 2, 3, 4, 5, 6, 7] rfl) X hF
def cProcessor_storeMany_b44 : Nat → CS → Int32 → Int32 → Int32 → Int32 → Int32 → Int32 → Int32 → Option (CS)
  | 0, _, _, _, _, _, _, _, _ => none
  | n + 1, st, x2, x3, x4, x5, x6, x7, x8 => (if ((16 : Int32) ≤ x8) then (some st) else (if ((cProcessor_is st ((1 : Int32) <<< (x8 &&& 31))) = 0) then (cProcessor_storeMany_b167 (cProcessor_storeMany_b44 n) st x2 x3 x4 x5 x6 x7 x8) else (if (x7 = 0) then (if (x8 = x5) then (if ((cRegisters_isOneFor x4 x3 x8) = 0) then (cProcessor_storeMany_b93 (cProcessor_storeMany_b44 n) st x2 x3 x4 x5 x6 x7 x8) else (cProcessor_storeMany_b94 (cProcessor_storeMany_b44 n) st x2 x3 x4 x5 x6 x7 x8 (1 : Int32))) else (cProcessor_storeMany_b93 (cProcessor_storeMany_b44 n) st x2 x3 x4 x5 x6 x7 x8)) else (cProcessor_storeMany_b93 (cProcessor_storeMany_b44 n) st x2 x3 x4 x5 x6 x7 x8))))
set_option maxHeartbeats 4000000 in
set_option maxRecDepth 100000 in
theorem k_cProcessor_storeMany_b44 {p : Program} {l : Launch} {e : Env} {s : State} {m : MethodId} {args : Array Value} {below : List Frame} {meth : Method} {c : Code} {A : Nat → Prop} (g : Gm) (C : cX p s m args meth c A cX5_storeMany none 11 RX5 wq_X5_storeMany (gD g) vwCl (cty g) (cz g)) : ∀ (n : Nat) (st : CS) (x2 : Int32) (x3 : Int32) (x4 : Int32) (x5 : Int32) (x6 : Int32) (x7 : Int32) (x8 : Int32) (H : Heap) (locs : List Loc) (ls : Array Slot), cI (gD g) vwCl (cw g) A s st H locs → lv_has ls 11 [(0, .ref (gad g 19)), (2, .int x2), (3, .int x3), (4, .int x4), (5, .int x5), (6, .int x6), (7, .int x7), (8, .int x8)] → ∀ (X : CS), some X = cProcessor_storeMany_b44 n st x2 x3 x4 x5 x6 x7 x8 → W p l e rm_cProcessor_storeMany s m args below meth c H locs 0 0 (MQ below (cQv (gD g) vwCl (cty g) (cw g) A X) args s 0 0 A) (F0 m 44 ls []) := by
  obtain ⟨hx, hb, hr, hml, hown, hts, hlocks, hK, hA, hZ, hzo⟩ := id C
  intro n
  induction n with
  | zero => intro st x2 x3 x4 x5 x6 x7 x8 H locs ls hI hl X hF; exact absurd hF (by simp [cProcessor_storeMany_b44])
  | succ n ih =>
    intro st x2 x3 x4 x5 x6 x7 x8 H locs ls hI hl X hF
    rw [cProcessor_storeMany_b44] at hF
    refine lv_iload hx hb dX5_storeMany_44 (lv_at hl 7 rfl) ?_
    refine lv_bipush (v := (16 : Int32)) hx hb dX5_storeMany_46 (by decide) ?_
    refine lv_icmp_ge (tgt := 173) hx hb dX5_storeMany_48 (by decide) (fun c_48 => ?_) (fun c_48 => ?_)
    · have hF := hF.trans (if_pos c_48)
      have hF := Option.some.inj hF
      exact cx_vret C hI hF dX5_storeMany_173
    · have hF := hF.trans (if_neg c_48)
      refine lv_aload_n hx hb dX5_storeMany_51 rfl (lv_at hl 0 rfl) ?_
      refine lv_iconst (v := (1 : Int32)) hx hb dX5_storeMany_52 (by decide) ?_
      refine lv_iload hx hb dX5_storeMany_53 (lv_at hl 7 rfl) ?_
      refine lv_ishl hx hb dX5_storeMany_55 ?_
      refine cx_Vi (As := [.int ((1 : Int32) <<< (x8 &&& 31))]) (rest := []) C (c_cProcessor_is l g st ((1 : Int32) <<< (x8 &&& 31))) (cwV 1 hts (gd_V _ mw397 mw398 mw399 mw46 mw400) rfl rfl rfl yd_yX5_is ⟨Nat.le_of_ble_eq_true rfl, Nat.le_of_ble_eq_true rfl⟩) (va_recv hK hI.1 (ci := 5) (q0 := 19) rfl rfl) hI rfl hl.1 rfl (Nat.le_of_ble_eq_true rfl) dX5_storeMany_56 (fun H locs hI => ?_)
      refine lv_if_eq (tgt := 167) hx hb dX5_storeMany_59 (by decide) (fun c_59 => ?_) (fun c_59 => ?_)
      · have hF := hF.trans (if_pos c_59)
        exact k_cProcessor_storeMany_b167 g C (cProcessor_storeMany_b44 n) ih st x2 x3 x4 x5 x6 x7 x8 H locs ls hI (lv_sub hl [0, 1, 2, 3, 4, 5, 6, 7] rfl) X hF
      · have hF := hF.trans (if_neg c_59)
        refine lv_iload hx hb dX5_storeMany_62 (lv_at hl 6 rfl) ?_
        refine lv_if_ne (tgt := 93) hx hb dX5_storeMany_64 (by decide) (fun c_64 => ?_) (fun c_64 => ?_)
        · have hF := hF.trans (if_neg c_64)
          exact k_cProcessor_storeMany_b93 g C (cProcessor_storeMany_b44 n) ih st x2 x3 x4 x5 x6 x7 x8 H locs ls hI (lv_sub hl [0, 1, 2, 3, 4, 5, 6, 7] rfl) X hF
        · have hF := hF.trans (if_pos c_64)
          refine lv_iload hx hb dX5_storeMany_67 (lv_at hl 7 rfl) ?_
          refine lv_iload hx hb dX5_storeMany_69 (lv_at hl 4 rfl) ?_
          refine lv_icmp_ne (tgt := 93) hx hb dX5_storeMany_71 (by decide) (fun c_71 => ?_) (fun c_71 => ?_)
          · have hF := hF.trans (if_neg c_71)
            exact k_cProcessor_storeMany_b93 g C (cProcessor_storeMany_b44 n) ih st x2 x3 x4 x5 x6 x7 x8 H locs ls hI (lv_sub hl [0, 1, 2, 3, 4, 5, 6, 7] rfl) X hF
          · have hF := hF.trans (if_pos c_71)
            refine lv_aload_n hx hb dX5_storeMany_74 rfl (lv_at hl 0 rfl) ?_
            refine va_get (D := gD g) (ci := 5) (C := RX5) (T := TX5) (N := 10) (v := .ref (gad g 2)) hx hb hts (fun w h => List.mem_cons_of_mem _ (isX50 w h)) hown hK hI.1 19 rfl rfl 0 (by decide) (hts _ (List.mem_cons_of_mem _ mw112)) (fun _ h9 => h9) rfl dX5_storeMany_75 ?_
            refine lv_iload hx hb dX5_storeMany_78 (lv_at hl 3 rfl) ?_
            refine lv_iload_n hx hb dX5_storeMany_80 rfl (lv_at hl 2 rfl) ?_
            refine lv_iload hx hb dX5_storeMany_81 (lv_at hl 7 rfl) ?_
            refine cx_Vi (As := [.int x4, .int x3, .int x8]) (rest := []) C (c_cRegisters_isOneFor l g st x4 x3 x8) (cwV 3 hts (gd_V _ mw666 mw667 mw668 mw14 mw669) rfl rfl rfl yd_yX6_isOneFor ⟨Nat.le_of_ble_eq_true rfl, Nat.le_of_ble_eq_true rfl⟩) (va_recv hK hI.1 (ci := 6) (q0 := 2) rfl rfl) hI rfl hl.1 rfl (Nat.le_of_ble_eq_true rfl) dX5_storeMany_83 (fun H locs hI => ?_)
            refine lv_if_eq (tgt := 93) hx hb dX5_storeMany_86 (by decide) (fun c_86 => ?_) (fun c_86 => ?_)
            · have hF := hF.trans (if_pos c_86)
              exact k_cProcessor_storeMany_b93 g C (cProcessor_storeMany_b44 n) ih st x2 x3 x4 x5 x6 x7 x8 H locs ls hI (lv_sub hl [0, 1, 2, 3, 4, 5, 6, 7] rfl) X hF
            · have hF := hF.trans (if_neg c_86)
              refine lv_iconst (v := (1 : Int32)) hx hb dX5_storeMany_89 (by decide) ?_
              refine lv_goto (tgt := 94) hx hb dX5_storeMany_90 (by decide) ?_
              exact k_cProcessor_storeMany_b94 g C (cProcessor_storeMany_b44 n) ih st x2 x3 x4 x5 x6 x7 x8 (1 : Int32) H locs ls hI (lv_sub hl [0, 1, 2, 3, 4, 5, 6, 7] rfl) X hF
def cProcessor_storeMany_b44t (st : CS) (x2 : Int32) (x3 : Int32) (x4 : Int32) (x5 : Int32) (x6 : Int32) (x7 : Int32) (x8 : Int32) : CS := (cProcessor_storeMany_b44 (17) st x2 x3 x4 x5 x6 x7 x8).getD st
theorem e_cProcessor_storeMany_b44 : ∀ (n j : Nat) (st : CS) (x2 x3 x4 x5 x6 x7 : Int32), j ≤ 16 → 16 - j < n → ∃ r, cProcessor_storeMany_b44 n st x2 x3 x4 x5 x6 x7 (nI j) = some r := by
  intro n
  induction n with
  | zero => intro j st x2 x3 x4 x5 x6 x7 h1 h2; omega
  | succ n ih =>
    intro j st x2 x3 x4 x5 x6 x7 h1 h2
    rw [cProcessor_storeMany_b44]
    rcases Nat.lt_or_ge j 16 with q | q
    · rw [if_neg (show ¬ (16 : Int32) ≤ nI j from nI_ge q (by decide))]
      simp only [cProcessor_storeMany_b93, cProcessor_storeMany_b94, cProcessor_storeMany_b132, cProcessor_storeMany_b155, cProcessor_storeMany_b167]
      rw [show nI j + (1 : Int32) = nI (j + 1) from nI_1 j]
      repeat' split
      all_goals first | exact ⟨_, rfl⟩ | exact ih (j + 1) _ _ _ _ _ _ _ q (by omega)
    · have e : j = 16 := by omega
      subst e
      rw [if_pos (show (16 : Int32) ≤ nI 16 by decide)]
      repeat' split
      all_goals exact ⟨_, rfl⟩
theorem t_cProcessor_storeMany_b44 (st : CS) (x2 x3 x4 x5 x6 x7 x8 : Int32) (hz : x8 = 0) : some (cProcessor_storeMany_b44t st x2 x3 x4 x5 x6 x7 x8) = cProcessor_storeMany_b44 (17) st x2 x3 x4 x5 x6 x7 x8 := by
  subst hz
  exact some_getD (e_cProcessor_storeMany_b44 _ 0 st x2 x3 x4 x5 x6 x7 (Nat.zero_le _) (by decide))
set_option maxHeartbeats 4000000 in
set_option maxRecDepth 100000 in
theorem k_cProcessor_storeMany_b44t {p : Program} {l : Launch} {e : Env} {s : State} {m : MethodId} {args : Array Value} {below : List Frame} {meth : Method} {c : Code} {A : Nat → Prop} (g : Gm) (C : cX p s m args meth c A cX5_storeMany none 11 RX5 wq_X5_storeMany (gD g) vwCl (cty g) (cz g)) (st : CS) (x2 : Int32) (x3 : Int32) (x4 : Int32) (x5 : Int32) (x6 : Int32) (x7 : Int32) (x8 : Int32) (H : Heap) (locs : List Loc) (ls : Array Slot) (hI : cI (gD g) vwCl (cw g) A s st H locs) (hl : lv_has ls 11 [(0, .ref (gad g 19)), (2, .int x2), (3, .int x3), (4, .int x4), (5, .int x5), (6, .int x6), (7, .int x7), (8, .int x8)]) (hz : x8 = 0) (X : CS) (hF : X = cProcessor_storeMany_b44t st x2 x3 x4 x5 x6 x7 x8) : W p l e rm_cProcessor_storeMany s m args below meth c H locs 0 0 (MQ below (cQv (gD g) vwCl (cty g) (cw g) A X) args s 0 0 A) (F0 m 44 ls []) := by
  refine k_cProcessor_storeMany_b44 g C (17) st x2 x3 x4 x5 x6 x7 x8 H locs ls hI hl X ?_
  rw [hF]
  exact t_cProcessor_storeMany_b44 st x2 x3 x4 x5 x6 x7 x8 hz
def cProcessor_storeMany_b22 (st : CS) (x1 : Int32) (x2 : Int32) (x3 : Int32) (y0 : Int32) : CS := (cProcessor_storeMany_b44t st x2 x3 y0 (cProcessor_part st (16 : Int32)) (x1 &&& (67108860 : Int32)) (0 : Int32) (0 : Int32))
set_option maxHeartbeats 4000000 in
set_option maxRecDepth 100000 in
theorem k_cProcessor_storeMany_b22 {p : Program} {l : Launch} {e : Env} {s : State} {m : MethodId} {args : Array Value} {below : List Frame} {meth : Method} {c : Code} {A : Nat → Prop} (g : Gm) (C : cX p s m args meth c A cX5_storeMany none 11 RX5 wq_X5_storeMany (gD g) vwCl (cty g) (cz g)) (st : CS) (x1 : Int32) (x2 : Int32) (x3 : Int32) (y0 : Int32) (H : Heap) (locs : List Loc) (ls : Array Slot) (hI : cI (gD g) vwCl (cw g) A s st H locs) (hl : lv_has ls 11 [(0, .ref (gad g 19)), (1, .int x1), (2, .int x2), (3, .int x3)]) (X : CS) (hF : X = cProcessor_storeMany_b22 st x1 x2 x3 y0) : W p l e rm_cProcessor_storeMany s m args below meth c H locs 0 0 (MQ below (cQv (gD g) vwCl (cty g) (cw g) A X) args s 0 0 A) (F0 m 22 ls [.int y0]) := by
  obtain ⟨hx, hb, hr, hml, hown, hts, hlocks, hK, hA, hZ, hzo⟩ := id C
  unfold cProcessor_storeMany_b22 at hF
  refine lv_istore (lv' := [(4, .int y0), (0, .ref (gad g 19)), (1, .int x1), (2, .int x2), (3, .int x3)]) hx hb dX5_storeMany_22 hl (by decide) rfl (fun ls hl => ?_)
  refine lv_aload_n hx hb dX5_storeMany_24 rfl (lv_at hl 1 rfl) ?_
  refine lv_bipush (v := (16 : Int32)) hx hb dX5_storeMany_25 (by decide) ?_
  refine cx_Vi (As := [.int (16 : Int32)]) (rest := []) C (c_cProcessor_part l g st (16 : Int32)) (cwV 1 hts (gd_V _ mw393 mw394 mw395 mw46 mw396) rfl rfl rfl yd_yX5_part ⟨Nat.le_of_ble_eq_true rfl, Nat.le_of_ble_eq_true rfl⟩) (va_recv hK hI.1 (ci := 5) (q0 := 19) rfl rfl) hI rfl hl.1 rfl (Nat.le_of_ble_eq_true rfl) dX5_storeMany_27 (fun H locs hI => ?_)
  refine lv_istore (lv' := [(5, .int (cProcessor_part st (16 : Int32))), (4, .int y0), (0, .ref (gad g 19)), (1, .int x1), (2, .int x2), (3, .int x3)]) hx hb dX5_storeMany_30 hl (by decide) rfl (fun ls hl => ?_)
  refine lv_iload_n hx hb dX5_storeMany_32 rfl (lv_at hl 3 rfl) ?_
  refine lv_ldc (v := (67108860 : Int32)) hx hb hown (hts _ (List.mem_cons_of_mem _ mw415)) dX5_storeMany_33 ?_
  refine lv_iand hx hb dX5_storeMany_35 ?_
  refine lv_istore (lv' := [(6, .int (x1 &&& (67108860 : Int32))), (5, .int (cProcessor_part st (16 : Int32))), (4, .int y0), (0, .ref (gad g 19)), (1, .int x1), (2, .int x2), (3, .int x3)]) hx hb dX5_storeMany_36 hl (by decide) rfl (fun ls hl => ?_)
  refine lv_iconst (v := (0 : Int32)) hx hb dX5_storeMany_38 (by decide) ?_
  refine lv_istore (lv' := [(7, .int (0 : Int32)), (6, .int (x1 &&& (67108860 : Int32))), (5, .int (cProcessor_part st (16 : Int32))), (4, .int y0), (0, .ref (gad g 19)), (1, .int x1), (2, .int x2), (3, .int x3)]) hx hb dX5_storeMany_39 hl (by decide) rfl (fun ls hl => ?_)
  refine lv_iconst (v := (0 : Int32)) hx hb dX5_storeMany_41 (by decide) ?_
  refine lv_istore (lv' := [(8, .int (0 : Int32)), (7, .int (0 : Int32)), (6, .int (x1 &&& (67108860 : Int32))), (5, .int (cProcessor_part st (16 : Int32))), (4, .int y0), (0, .ref (gad g 19)), (1, .int x1), (2, .int x2), (3, .int x3)]) hx hb dX5_storeMany_42 hl (by decide) rfl (fun ls hl => ?_)
  exact k_cProcessor_storeMany_b44t g C st x2 x3 y0 (cProcessor_part st (16 : Int32)) (x1 &&& (67108860 : Int32)) (0 : Int32) (0 : Int32) H locs ls hI (lv_sub hl [5, 7, 8, 4, 3, 2, 1, 0] rfl) rfl X hF
def cProcessor_storeMany (st : CS) (x1 : Int32) (x2 : Int32) : CS := (if ((cProcessor_is st (4194304 : Int32)) = 0) then (cProcessor_storeMany_b22 st x1 x2 (cRegisters_mode st) (cRegisters_mode st)) else (cProcessor_storeMany_b22 st x1 x2 (cRegisters_mode st) (0 : Int32)))
set_option maxHeartbeats 4000000 in
set_option maxRecDepth 100000 in
theorem k_cProcessor_storeMany {p : Program} {l : Launch} {e : Env} {s : State} {m : MethodId} {args : Array Value} {below : List Frame} {meth : Method} {c : Code} {A : Nat → Prop} (g : Gm) (C : cX p s m args meth c A cX5_storeMany none 11 RX5 wq_X5_storeMany (gD g) vwCl (cty g) (cz g)) (st : CS) (x1 : Int32) (x2 : Int32) (H : Heap) (locs : List Loc) (ls : Array Slot) (hI : cI (gD g) vwCl (cw g) A s st H locs) (hl : lv_has ls 11 [(0, .ref (gad g 19)), (1, .int x1), (2, .int x2)]) (X : CS) (hF : X = cProcessor_storeMany st x1 x2) : W p l e rm_cProcessor_storeMany s m args below meth c H locs 0 0 (MQ below (cQv (gD g) vwCl (cty g) (cw g) A X) args s 0 0 A) (F0 m 0 ls []) := by
  obtain ⟨hx, hb, hr, hml, hown, hts, hlocks, hK, hA, hZ, hzo⟩ := id C
  unfold cProcessor_storeMany at hF
  refine lv_aload_n hx hb dX5_storeMany_0 rfl (lv_at hl 0 rfl) ?_
  refine va_get (D := gD g) (ci := 5) (C := RX5) (T := TX5) (N := 10) (v := .ref (gad g 2)) hx hb hts (fun w h => List.mem_cons_of_mem _ (isX50 w h)) hown hK hI.1 19 rfl rfl 0 (by decide) (hts _ (List.mem_cons_of_mem _ mw112)) (fun _ h9 => h9) rfl dX5_storeMany_1 ?_
  refine cx_Vi (As := []) (rest := []) C (c_cRegisters_mode l g st ) (cwV 0 hts (gd_V _ mw329 mw330 mw331 mw14 mw332) rfl rfl rfl yd_yX6_mode ⟨Nat.le_of_ble_eq_true rfl, Nat.le_of_ble_eq_true rfl⟩) (va_recv hK hI.1 (ci := 6) (q0 := 2) rfl rfl) hI rfl hl.1 rfl (Nat.le_of_ble_eq_true rfl) dX5_storeMany_4 (fun H locs hI => ?_)
  refine lv_istore_n (lv' := [(3, .int (cRegisters_mode st)), (0, .ref (gad g 19)), (1, .int x1), (2, .int x2)]) hx hb dX5_storeMany_7 rfl hl (by decide) rfl (fun ls hl => ?_)
  refine lv_aload_n hx hb dX5_storeMany_8 rfl (lv_at hl 1 rfl) ?_
  refine lv_ldc (v := (4194304 : Int32)) hx hb hown (hts _ (List.mem_cons_of_mem _ mw525)) dX5_storeMany_9 ?_
  refine cx_Vi (As := [.int (4194304 : Int32)]) (rest := []) C (c_cProcessor_is l g st (4194304 : Int32)) (cwV 1 hts (gd_V _ mw397 mw398 mw399 mw46 mw400) rfl rfl rfl yd_yX5_is ⟨Nat.le_of_ble_eq_true rfl, Nat.le_of_ble_eq_true rfl⟩) (va_recv hK hI.1 (ci := 5) (q0 := 19) rfl rfl) hI rfl hl.1 rfl (Nat.le_of_ble_eq_true rfl) dX5_storeMany_11 (fun H locs hI => ?_)
  refine lv_if_eq (tgt := 21) hx hb dX5_storeMany_14 (by decide) (fun c_14 => ?_) (fun c_14 => ?_)
  · have hF := hF.trans (if_pos c_14)
    refine lv_iload_n hx hb dX5_storeMany_21 rfl (lv_at hl 0 rfl) ?_
    exact k_cProcessor_storeMany_b22 g C st x1 x2 (cRegisters_mode st) (cRegisters_mode st) H locs ls hI (lv_sub hl [1, 2, 3, 0] rfl) X hF
  · have hF := hF.trans (if_neg c_14)
    refine lv_iconst (v := (0 : Int32)) hx hb dX5_storeMany_17 (by decide) ?_
    refine lv_goto (tgt := 22) hx hb dX5_storeMany_18 (by decide) ?_
    exact k_cProcessor_storeMany_b22 g C st x1 x2 (cRegisters_mode st) (0 : Int32) H locs ls hI (lv_sub hl [1, 2, 3, 0] rfl) X hF
set_option maxHeartbeats 4000000 in
set_option maxRecDepth 100000 in
theorem c_cProcessor_storeMany (l : Launch) (g : Gm) (st : CS) (x1 : Int32) (x2 : Int32) : Mv l yX5_storeMany wq_X5_storeMany rm_cProcessor_storeMany (gD g) vwCl (cty g) (cw g) (cz g) [.ref (gad g 19), .int x1, .int x2] st (cProcessor_storeMany st x1 x2) := by
  intro sz
  refine Met.ofW (cc := cX5_storeMany) (maxL := 11) (ret := none) (by decide) rfl ?_
  intro p e s m args below meth c s₁ B hml hv
  obtain ⟨rfl, hsz, hP, hK, hD0, hZ⟩ := hv
  subst hsz
  have hl := lv_entry ([.ref (gad g 19), .int x1, .int x2]) (n := 11) (Nat.le_of_ble_eq_true rfl)
  rw [lg_entry_eq]
  generalize (lg_sl ([.ref (gad g 19), .int x1, .int x2]) ++ List.replicate (11 - (lg_sl ([.ref (gad g 19), .int x1, .int x2])).length) Slot.unset).toArray = ls at hl ⊢
  exact k_cProcessor_storeMany g ⟨B.exec, B.bytes, B.returns, hml, findClass_of_methodNamed B.named, atoms_spec (ws := wq_X5_storeMany) B.pre, B.notSynchronized, hK, fun q h => Or.inr h, hZ, cz_ok g⟩ st x1 x2 _ _ ls ⟨hP, hD0.self, va_S.rf⟩ hl _ rfl
abbrev wq_J6_bitCount_0f7a4 : List Cond := .code yJ6_bitCount_0f7a4 cJ6_bitCount_0f7a4 1 (some .int) :: wAll
theorem yd_yJ6_bitCount_0f7a4 : yJ6_bitCount_0f7a4.cls ≠ "java/lang/invoke/MethodHandle" ∧ yJ6_bitCount_0f7a4.cls ≠ "java/lang/invoke/VarHandle" ∧ (parseMethodDescriptor yJ6_bitCount_0f7a4.desc).map (fun d => d.parameters.length) = some 1 := by decide +kernel
abbrev rm_cInteger_bitCount : Room := { frames := 0, cells := 0, slots := 0, locals := 0 }
def cInteger_bitCount (x0 : Int32) : Int32 := ((((((((x0 - ((ushr x0 (1 : Int32)) &&& (1431655765 : Int32))) &&& (858993459 : Int32)) + ((ushr (x0 - ((ushr x0 (1 : Int32)) &&& (1431655765 : Int32))) (2 : Int32)) &&& (858993459 : Int32))) + (ushr (((x0 - ((ushr x0 (1 : Int32)) &&& (1431655765 : Int32))) &&& (858993459 : Int32)) + ((ushr (x0 - ((ushr x0 (1 : Int32)) &&& (1431655765 : Int32))) (2 : Int32)) &&& (858993459 : Int32))) (4 : Int32))) &&& (252645135 : Int32)) + (ushr (((((x0 - ((ushr x0 (1 : Int32)) &&& (1431655765 : Int32))) &&& (858993459 : Int32)) + ((ushr (x0 - ((ushr x0 (1 : Int32)) &&& (1431655765 : Int32))) (2 : Int32)) &&& (858993459 : Int32))) + (ushr (((x0 - ((ushr x0 (1 : Int32)) &&& (1431655765 : Int32))) &&& (858993459 : Int32)) + ((ushr (x0 - ((ushr x0 (1 : Int32)) &&& (1431655765 : Int32))) (2 : Int32)) &&& (858993459 : Int32))) (4 : Int32))) &&& (252645135 : Int32)) (8 : Int32))) + (ushr ((((((x0 - ((ushr x0 (1 : Int32)) &&& (1431655765 : Int32))) &&& (858993459 : Int32)) + ((ushr (x0 - ((ushr x0 (1 : Int32)) &&& (1431655765 : Int32))) (2 : Int32)) &&& (858993459 : Int32))) + (ushr (((x0 - ((ushr x0 (1 : Int32)) &&& (1431655765 : Int32))) &&& (858993459 : Int32)) + ((ushr (x0 - ((ushr x0 (1 : Int32)) &&& (1431655765 : Int32))) (2 : Int32)) &&& (858993459 : Int32))) (4 : Int32))) &&& (252645135 : Int32)) + (ushr (((((x0 - ((ushr x0 (1 : Int32)) &&& (1431655765 : Int32))) &&& (858993459 : Int32)) + ((ushr (x0 - ((ushr x0 (1 : Int32)) &&& (1431655765 : Int32))) (2 : Int32)) &&& (858993459 : Int32))) + (ushr (((x0 - ((ushr x0 (1 : Int32)) &&& (1431655765 : Int32))) &&& (858993459 : Int32)) + ((ushr (x0 - ((ushr x0 (1 : Int32)) &&& (1431655765 : Int32))) (2 : Int32)) &&& (858993459 : Int32))) (4 : Int32))) &&& (252645135 : Int32)) (8 : Int32))) (16 : Int32))) &&& (63 : Int32))
set_option maxHeartbeats 4000000 in
set_option maxRecDepth 100000 in
theorem k_cInteger_bitCount {p : Program} {l : Launch} {e : Env} {s : State} {m : MethodId} {args : Array Value} {below : List Frame} {meth : Method} {c : Code} {A : Nat → Prop} (g : Gm) (C : cX p s m args meth c A cJ6_bitCount_0f7a4 (some .int) 1 RJ6 wq_J6_bitCount_0f7a4 (gD g) vwCl (cty g) (cz g)) (st : CS) (x0 : Int32) (H : Heap) (locs : List Loc) (ls : Array Slot) (hI : cI (gD g) vwCl (cw g) A s st H locs) (hl : lv_has ls 1 [(0, .int x0)]) (X : Int32) (hF : X = cInteger_bitCount x0) : W p l e rm_cInteger_bitCount s m args below meth c H locs 0 0 (MQ below (cQi (gD g) vwCl (cty g) (cw g) A st X) args s 0 0 A) (F0 m 0 ls []) := by
  obtain ⟨hx, hb, hr, hml, hown, hts, hlocks, hK, hA, hZ, hzo⟩ := id C
  unfold cInteger_bitCount at hF
  refine lv_iload_n hx hb dJ6_bitCount_0f7a4_0 rfl (lv_at hl 0 rfl) ?_
  refine lv_iload_n hx hb dJ6_bitCount_0f7a4_1 rfl (lv_at hl 0 rfl) ?_
  refine lv_iconst (v := (1 : Int32)) hx hb dJ6_bitCount_0f7a4_2 (by decide) ?_
  refine lv_iushr (v := (ushr x0 (1 : Int32))) hx hb dJ6_bitCount_0f7a4_3 rfl ?_
  refine lv_ldcw (v := (1431655765 : Int32)) hx hb hown (hts _ (List.mem_cons_of_mem _ mw651)) dJ6_bitCount_0f7a4_4 ?_
  refine lv_iand hx hb dJ6_bitCount_0f7a4_7 ?_
  refine lv_isub hx hb dJ6_bitCount_0f7a4_8 ?_
  refine lv_istore_n (lv' := [(0, .int (x0 - ((ushr x0 (1 : Int32)) &&& (1431655765 : Int32))))]) hx hb dJ6_bitCount_0f7a4_9 rfl hl (by decide) rfl (fun ls hl => ?_)
  refine lv_iload_n hx hb dJ6_bitCount_0f7a4_10 rfl (lv_at hl 0 rfl) ?_
  refine lv_ldcw (v := (858993459 : Int32)) hx hb hown (hts _ (List.mem_cons_of_mem _ mw652)) dJ6_bitCount_0f7a4_11 ?_
  refine lv_iand hx hb dJ6_bitCount_0f7a4_14 ?_
  refine lv_iload_n hx hb dJ6_bitCount_0f7a4_15 rfl (lv_at hl 0 rfl) ?_
  refine lv_iconst (v := (2 : Int32)) hx hb dJ6_bitCount_0f7a4_16 (by decide) ?_
  refine lv_iushr (v := (ushr (x0 - ((ushr x0 (1 : Int32)) &&& (1431655765 : Int32))) (2 : Int32))) hx hb dJ6_bitCount_0f7a4_17 rfl ?_
  refine lv_ldcw (v := (858993459 : Int32)) hx hb hown (hts _ (List.mem_cons_of_mem _ mw652)) dJ6_bitCount_0f7a4_18 ?_
  refine lv_iand hx hb dJ6_bitCount_0f7a4_21 ?_
  refine lv_iadd hx hb dJ6_bitCount_0f7a4_22 ?_
  refine lv_istore_n (lv' := [(0, .int (((x0 - ((ushr x0 (1 : Int32)) &&& (1431655765 : Int32))) &&& (858993459 : Int32)) + ((ushr (x0 - ((ushr x0 (1 : Int32)) &&& (1431655765 : Int32))) (2 : Int32)) &&& (858993459 : Int32))))]) hx hb dJ6_bitCount_0f7a4_23 rfl hl (by decide) rfl (fun ls hl => ?_)
  refine lv_iload_n hx hb dJ6_bitCount_0f7a4_24 rfl (lv_at hl 0 rfl) ?_
  refine lv_iload_n hx hb dJ6_bitCount_0f7a4_25 rfl (lv_at hl 0 rfl) ?_
  refine lv_iconst (v := (4 : Int32)) hx hb dJ6_bitCount_0f7a4_26 (by decide) ?_
  refine lv_iushr (v := (ushr (((x0 - ((ushr x0 (1 : Int32)) &&& (1431655765 : Int32))) &&& (858993459 : Int32)) + ((ushr (x0 - ((ushr x0 (1 : Int32)) &&& (1431655765 : Int32))) (2 : Int32)) &&& (858993459 : Int32))) (4 : Int32))) hx hb dJ6_bitCount_0f7a4_27 rfl ?_
  refine lv_iadd hx hb dJ6_bitCount_0f7a4_28 ?_
  refine lv_ldcw (v := (252645135 : Int32)) hx hb hown (hts _ (List.mem_cons_of_mem _ mw653)) dJ6_bitCount_0f7a4_29 ?_
  refine lv_iand hx hb dJ6_bitCount_0f7a4_32 ?_
  refine lv_istore_n (lv' := [(0, .int (((((x0 - ((ushr x0 (1 : Int32)) &&& (1431655765 : Int32))) &&& (858993459 : Int32)) + ((ushr (x0 - ((ushr x0 (1 : Int32)) &&& (1431655765 : Int32))) (2 : Int32)) &&& (858993459 : Int32))) + (ushr (((x0 - ((ushr x0 (1 : Int32)) &&& (1431655765 : Int32))) &&& (858993459 : Int32)) + ((ushr (x0 - ((ushr x0 (1 : Int32)) &&& (1431655765 : Int32))) (2 : Int32)) &&& (858993459 : Int32))) (4 : Int32))) &&& (252645135 : Int32)))]) hx hb dJ6_bitCount_0f7a4_33 rfl hl (by decide) rfl (fun ls hl => ?_)
  refine lv_iload_n hx hb dJ6_bitCount_0f7a4_34 rfl (lv_at hl 0 rfl) ?_
  refine lv_iload_n hx hb dJ6_bitCount_0f7a4_35 rfl (lv_at hl 0 rfl) ?_
  refine lv_bipush (v := (8 : Int32)) hx hb dJ6_bitCount_0f7a4_36 (by decide) ?_
  refine lv_iushr (v := (ushr (((((x0 - ((ushr x0 (1 : Int32)) &&& (1431655765 : Int32))) &&& (858993459 : Int32)) + ((ushr (x0 - ((ushr x0 (1 : Int32)) &&& (1431655765 : Int32))) (2 : Int32)) &&& (858993459 : Int32))) + (ushr (((x0 - ((ushr x0 (1 : Int32)) &&& (1431655765 : Int32))) &&& (858993459 : Int32)) + ((ushr (x0 - ((ushr x0 (1 : Int32)) &&& (1431655765 : Int32))) (2 : Int32)) &&& (858993459 : Int32))) (4 : Int32))) &&& (252645135 : Int32)) (8 : Int32))) hx hb dJ6_bitCount_0f7a4_38 rfl ?_
  refine lv_iadd hx hb dJ6_bitCount_0f7a4_39 ?_
  refine lv_istore_n (lv' := [(0, .int ((((((x0 - ((ushr x0 (1 : Int32)) &&& (1431655765 : Int32))) &&& (858993459 : Int32)) + ((ushr (x0 - ((ushr x0 (1 : Int32)) &&& (1431655765 : Int32))) (2 : Int32)) &&& (858993459 : Int32))) + (ushr (((x0 - ((ushr x0 (1 : Int32)) &&& (1431655765 : Int32))) &&& (858993459 : Int32)) + ((ushr (x0 - ((ushr x0 (1 : Int32)) &&& (1431655765 : Int32))) (2 : Int32)) &&& (858993459 : Int32))) (4 : Int32))) &&& (252645135 : Int32)) + (ushr (((((x0 - ((ushr x0 (1 : Int32)) &&& (1431655765 : Int32))) &&& (858993459 : Int32)) + ((ushr (x0 - ((ushr x0 (1 : Int32)) &&& (1431655765 : Int32))) (2 : Int32)) &&& (858993459 : Int32))) + (ushr (((x0 - ((ushr x0 (1 : Int32)) &&& (1431655765 : Int32))) &&& (858993459 : Int32)) + ((ushr (x0 - ((ushr x0 (1 : Int32)) &&& (1431655765 : Int32))) (2 : Int32)) &&& (858993459 : Int32))) (4 : Int32))) &&& (252645135 : Int32)) (8 : Int32))))]) hx hb dJ6_bitCount_0f7a4_40 rfl hl (by decide) rfl (fun ls hl => ?_)
  refine lv_iload_n hx hb dJ6_bitCount_0f7a4_41 rfl (lv_at hl 0 rfl) ?_
  refine lv_iload_n hx hb dJ6_bitCount_0f7a4_42 rfl (lv_at hl 0 rfl) ?_
  refine lv_bipush (v := (16 : Int32)) hx hb dJ6_bitCount_0f7a4_43 (by decide) ?_
  refine lv_iushr (v := (ushr ((((((x0 - ((ushr x0 (1 : Int32)) &&& (1431655765 : Int32))) &&& (858993459 : Int32)) + ((ushr (x0 - ((ushr x0 (1 : Int32)) &&& (1431655765 : Int32))) (2 : Int32)) &&& (858993459 : Int32))) + (ushr (((x0 - ((ushr x0 (1 : Int32)) &&& (1431655765 : Int32))) &&& (858993459 : Int32)) + ((ushr (x0 - ((ushr x0 (1 : Int32)) &&& (1431655765 : Int32))) (2 : Int32)) &&& (858993459 : Int32))) (4 : Int32))) &&& (252645135 : Int32)) + (ushr (((((x0 - ((ushr x0 (1 : Int32)) &&& (1431655765 : Int32))) &&& (858993459 : Int32)) + ((ushr (x0 - ((ushr x0 (1 : Int32)) &&& (1431655765 : Int32))) (2 : Int32)) &&& (858993459 : Int32))) + (ushr (((x0 - ((ushr x0 (1 : Int32)) &&& (1431655765 : Int32))) &&& (858993459 : Int32)) + ((ushr (x0 - ((ushr x0 (1 : Int32)) &&& (1431655765 : Int32))) (2 : Int32)) &&& (858993459 : Int32))) (4 : Int32))) &&& (252645135 : Int32)) (8 : Int32))) (16 : Int32))) hx hb dJ6_bitCount_0f7a4_45 rfl ?_
  refine lv_iadd hx hb dJ6_bitCount_0f7a4_46 ?_
  refine lv_istore_n (lv' := [(0, .int (((((((x0 - ((ushr x0 (1 : Int32)) &&& (1431655765 : Int32))) &&& (858993459 : Int32)) + ((ushr (x0 - ((ushr x0 (1 : Int32)) &&& (1431655765 : Int32))) (2 : Int32)) &&& (858993459 : Int32))) + (ushr (((x0 - ((ushr x0 (1 : Int32)) &&& (1431655765 : Int32))) &&& (858993459 : Int32)) + ((ushr (x0 - ((ushr x0 (1 : Int32)) &&& (1431655765 : Int32))) (2 : Int32)) &&& (858993459 : Int32))) (4 : Int32))) &&& (252645135 : Int32)) + (ushr (((((x0 - ((ushr x0 (1 : Int32)) &&& (1431655765 : Int32))) &&& (858993459 : Int32)) + ((ushr (x0 - ((ushr x0 (1 : Int32)) &&& (1431655765 : Int32))) (2 : Int32)) &&& (858993459 : Int32))) + (ushr (((x0 - ((ushr x0 (1 : Int32)) &&& (1431655765 : Int32))) &&& (858993459 : Int32)) + ((ushr (x0 - ((ushr x0 (1 : Int32)) &&& (1431655765 : Int32))) (2 : Int32)) &&& (858993459 : Int32))) (4 : Int32))) &&& (252645135 : Int32)) (8 : Int32))) + (ushr ((((((x0 - ((ushr x0 (1 : Int32)) &&& (1431655765 : Int32))) &&& (858993459 : Int32)) + ((ushr (x0 - ((ushr x0 (1 : Int32)) &&& (1431655765 : Int32))) (2 : Int32)) &&& (858993459 : Int32))) + (ushr (((x0 - ((ushr x0 (1 : Int32)) &&& (1431655765 : Int32))) &&& (858993459 : Int32)) + ((ushr (x0 - ((ushr x0 (1 : Int32)) &&& (1431655765 : Int32))) (2 : Int32)) &&& (858993459 : Int32))) (4 : Int32))) &&& (252645135 : Int32)) + (ushr (((((x0 - ((ushr x0 (1 : Int32)) &&& (1431655765 : Int32))) &&& (858993459 : Int32)) + ((ushr (x0 - ((ushr x0 (1 : Int32)) &&& (1431655765 : Int32))) (2 : Int32)) &&& (858993459 : Int32))) + (ushr (((x0 - ((ushr x0 (1 : Int32)) &&& (1431655765 : Int32))) &&& (858993459 : Int32)) + ((ushr (x0 - ((ushr x0 (1 : Int32)) &&& (1431655765 : Int32))) (2 : Int32)) &&& (858993459 : Int32))) (4 : Int32))) &&& (252645135 : Int32)) (8 : Int32))) (16 : Int32))))]) hx hb dJ6_bitCount_0f7a4_47 rfl hl (by decide) rfl (fun ls hl => ?_)
  refine lv_iload_n hx hb dJ6_bitCount_0f7a4_48 rfl (lv_at hl 0 rfl) ?_
  refine lv_bipush (v := (63 : Int32)) hx hb dJ6_bitCount_0f7a4_49 (by decide) ?_
  refine lv_iand hx hb dJ6_bitCount_0f7a4_51 ?_
  exact cx_iret C hI rfl hF dJ6_bitCount_0f7a4_52
set_option maxHeartbeats 4000000 in
set_option maxRecDepth 100000 in
theorem c_cInteger_bitCount (l : Launch) (g : Gm) (st : CS) (x0 : Int32) : Mi l yJ6_bitCount_0f7a4 wq_J6_bitCount_0f7a4 rm_cInteger_bitCount (gD g) vwCl (cty g) (cw g) (cz g) [.int x0] st st (cInteger_bitCount x0) := by
  intro sz
  refine Met.ofW (cc := cJ6_bitCount_0f7a4) (maxL := 1) (ret := (some .int)) (by decide) rfl ?_
  intro p e s m args below meth c s₁ B hml hv
  obtain ⟨rfl, hsz, hP, hK, hD0, hZ⟩ := hv
  subst hsz
  have hl := lv_entry ([.int x0]) (n := 1) (Nat.le_of_ble_eq_true rfl)
  rw [lg_entry_eq]
  generalize (lg_sl ([.int x0]) ++ List.replicate (1 - (lg_sl ([.int x0])).length) Slot.unset).toArray = ls at hl ⊢
  exact k_cInteger_bitCount g ⟨B.exec, B.bytes, B.returns, hml, findClass_of_methodNamed B.named, atoms_spec (ws := wq_J6_bitCount_0f7a4) B.pre, B.notSynchronized, hK, fun q h => Or.inr h, hZ, cz_ok g⟩ st x0 _ _ ls ⟨hP, hD0.self, va_S.rf⟩ hl _ rfl
abbrev wq_X5_transferMany : List Cond := .code yX5_transferMany cX5_transferMany 5 (some .int) :: wAll
theorem yd_yX5_transferMany : yX5_transferMany.cls = RX5 ∧ yX5_transferMany.cls ≠ "java/lang/invoke/MethodHandle" ∧ yX5_transferMany.cls ≠ "java/lang/invoke/VarHandle" ∧ (parseMethodDescriptor yX5_transferMany.desc).map (fun d => d.parameters.length) = some 0 := by decide +kernel
abbrev rm_cProcessor_transferMany : Room := { frames := 4, cells := 0, slots := 0, locals := 98 }
def cProcessor_transferMany_b186 (st : CS) (x1 : Int32) : CS × Int32 := (st, ((2 : Int32) + x1))
set_option maxHeartbeats 4000000 in
set_option maxRecDepth 100000 in
theorem k_cProcessor_transferMany_b186 {p : Program} {l : Launch} {e : Env} {s : State} {m : MethodId} {args : Array Value} {below : List Frame} {meth : Method} {c : Code} {A : Nat → Prop} (g : Gm) (C : cX p s m args meth c A cX5_transferMany (some .int) 5 RX5 wq_X5_transferMany (gD g) vwCl (cty g) (cz g)) (st : CS) (x1 : Int32) (H : Heap) (locs : List Loc) (ls : Array Slot) (hI : cI (gD g) vwCl (cw g) A s st H locs) (hl : lv_has ls 5 [(0, .ref (gad g 19)), (1, .int x1)]) (X : CS × Int32) (hF : X = cProcessor_transferMany_b186 st x1) : W p l e rm_cProcessor_transferMany s m args below meth c H locs 0 0 (MQ below (cQi (gD g) vwCl (cty g) (cw g) A X.1 X.2) args s 0 0 A) (F0 m 186 ls []) := by
  obtain ⟨hx, hb, hr, hml, hown, hts, hlocks, hK, hA, hZ, hzo⟩ := id C
  unfold cProcessor_transferMany_b186 at hF
  refine lv_iconst (v := (2 : Int32)) hx hb dX5_transferMany_186 (by decide) ?_
  refine lv_iload_n hx hb dX5_transferMany_187 rfl (lv_at hl 1 rfl) ?_
  refine lv_iadd hx hb dX5_transferMany_188 ?_
  exact cx_iret C hI (congrArg Prod.fst hF) (congrArg Prod.snd hF) dX5_transferMany_189
def cProcessor_transferMany_b160 (st : CS) (x1 : Int32) : CS × Int32 := (if ((cProcessor_is st (32768 : Int32)) = 0) then (st, (((2 : Int32) + x1) + (0 : Int32))) else (st, (((2 : Int32) + x1) + (3 : Int32))))
set_option maxHeartbeats 4000000 in
set_option maxRecDepth 100000 in
theorem k_cProcessor_transferMany_b160 {p : Program} {l : Launch} {e : Env} {s : State} {m : MethodId} {args : Array Value} {below : List Frame} {meth : Method} {c : Code} {A : Nat → Prop} (g : Gm) (C : cX p s m args meth c A cX5_transferMany (some .int) 5 RX5 wq_X5_transferMany (gD g) vwCl (cty g) (cz g)) (st : CS) (x1 : Int32) (H : Heap) (locs : List Loc) (ls : Array Slot) (hI : cI (gD g) vwCl (cw g) A s st H locs) (hl : lv_has ls 5 [(0, .ref (gad g 19)), (1, .int x1)]) (X : CS × Int32) (hF : X = cProcessor_transferMany_b160 st x1) : W p l e rm_cProcessor_transferMany s m args below meth c H locs 0 0 (MQ below (cQi (gD g) vwCl (cty g) (cw g) A X.1 X.2) args s 0 0 A) (F0 m 160 ls []) := by
  obtain ⟨hx, hb, hr, hml, hown, hts, hlocks, hK, hA, hZ, hzo⟩ := id C
  unfold cProcessor_transferMany_b160 at hF
  refine lv_iconst (v := (2 : Int32)) hx hb dX5_transferMany_160 (by decide) ?_
  refine lv_iload_n hx hb dX5_transferMany_161 rfl (lv_at hl 1 rfl) ?_
  refine lv_iadd hx hb dX5_transferMany_162 ?_
  refine lv_aload_n hx hb dX5_transferMany_163 rfl (lv_at hl 0 rfl) ?_
  refine lv_ldc (v := (32768 : Int32)) hx hb hown (hts _ (List.mem_cons_of_mem _ mw646)) dX5_transferMany_164 ?_
  refine cx_Vi (As := [.int (32768 : Int32)]) (rest := [.int ((2 : Int32) + x1)]) C (c_cProcessor_is l g st (32768 : Int32)) (cwV 1 hts (gd_V _ mw397 mw398 mw399 mw46 mw400) rfl rfl rfl yd_yX5_is ⟨Nat.le_of_ble_eq_true rfl, Nat.le_of_ble_eq_true rfl⟩) (va_recv hK hI.1 (ci := 5) (q0 := 19) rfl rfl) hI rfl hl.1 rfl (Nat.le_of_ble_eq_true rfl) dX5_transferMany_166 (fun H locs hI => ?_)
  refine lv_if_eq (tgt := 176) hx hb dX5_transferMany_169 (by decide) (fun c_169 => ?_) (fun c_169 => ?_)
  · have hF := hF.trans (if_pos c_169)
    refine lv_iconst (v := (0 : Int32)) hx hb dX5_transferMany_176 (by decide) ?_
    refine lv_iadd hx hb dX5_transferMany_177 ?_
    exact cx_iret C hI (congrArg Prod.fst hF) (congrArg Prod.snd hF) dX5_transferMany_178
  · have hF := hF.trans (if_neg c_169)
    refine lv_iconst (v := (3 : Int32)) hx hb dX5_transferMany_172 (by decide) ?_
    refine lv_goto (tgt := 177) hx hb dX5_transferMany_173 (by decide) ?_
    refine lv_iadd hx hb dX5_transferMany_177 ?_
    exact cx_iret C hI (congrArg Prod.fst hF) (congrArg Prod.snd hF) dX5_transferMany_178
def cProcessor_transferMany_b145 (st : CS) (x1 : Int32) (x3 : Int32) (x4 : Int32) : CS × Int32 := (if ((cProcessor_is st (1048576 : Int32)) = 0) then (cProcessor_transferMany_b186 (cProcessor_storeMany st x4 x3) x1) else (cProcessor_transferMany_b160 (cProcessor_loadMany st x4) x1))
set_option maxHeartbeats 4000000 in
set_option maxRecDepth 100000 in
theorem k_cProcessor_transferMany_b145 {p : Program} {l : Launch} {e : Env} {s : State} {m : MethodId} {args : Array Value} {below : List Frame} {meth : Method} {c : Code} {A : Nat → Prop} (g : Gm) (C : cX p s m args meth c A cX5_transferMany (some .int) 5 RX5 wq_X5_transferMany (gD g) vwCl (cty g) (cz g)) (st : CS) (x1 : Int32) (x3 : Int32) (x4 : Int32) (H : Heap) (locs : List Loc) (ls : Array Slot) (hI : cI (gD g) vwCl (cw g) A s st H locs) (hl : lv_has ls 5 [(0, .ref (gad g 19)), (1, .int x1), (3, .int x3), (4, .int x4)]) (X : CS × Int32) (hF : X = cProcessor_transferMany_b145 st x1 x3 x4) : W p l e rm_cProcessor_transferMany s m args below meth c H locs 0 0 (MQ below (cQi (gD g) vwCl (cty g) (cw g) A X.1 X.2) args s 0 0 A) (F0 m 145 ls []) := by
  obtain ⟨hx, hb, hr, hml, hown, hts, hlocks, hK, hA, hZ, hzo⟩ := id C
  unfold cProcessor_transferMany_b145 at hF
  refine lv_aload_n hx hb dX5_transferMany_145 rfl (lv_at hl 0 rfl) ?_
  refine lv_ldc (v := (1048576 : Int32)) hx hb hown (hts _ (List.mem_cons_of_mem _ mw390)) dX5_transferMany_146 ?_
  refine cx_Vi (As := [.int (1048576 : Int32)]) (rest := []) C (c_cProcessor_is l g st (1048576 : Int32)) (cwV 1 hts (gd_V _ mw397 mw398 mw399 mw46 mw400) rfl rfl rfl yd_yX5_is ⟨Nat.le_of_ble_eq_true rfl, Nat.le_of_ble_eq_true rfl⟩) (va_recv hK hI.1 (ci := 5) (q0 := 19) rfl rfl) hI rfl hl.1 rfl (Nat.le_of_ble_eq_true rfl) dX5_transferMany_148 (fun H locs hI => ?_)
  refine lv_if_eq (tgt := 179) hx hb dX5_transferMany_151 (by decide) (fun c_151 => ?_) (fun c_151 => ?_)
  · have hF := hF.trans (if_pos c_151)
    refine lv_aload_n hx hb dX5_transferMany_179 rfl (lv_at hl 0 rfl) ?_
    refine lv_iload hx hb dX5_transferMany_180 (lv_at hl 3 rfl) ?_
    refine lv_iload_n hx hb dX5_transferMany_182 rfl (lv_at hl 2 rfl) ?_
    refine cx_Vv (As := [.int x4, .int x3]) (rest := []) C (c_cProcessor_storeMany l g st x4 x3) (cwV 2 hts (gd_V _ mw662 mw663 mw664 mw46 mw665) rfl rfl rfl yd_yX5_storeMany ⟨Nat.le_of_ble_eq_true rfl, Nat.le_of_ble_eq_true rfl⟩) (va_recv hK hI.1 (ci := 5) (q0 := 19) rfl rfl) hI rfl hl.1 rfl (Nat.le_of_ble_eq_true rfl) dX5_transferMany_183 (fun H locs hI => ?_)
    exact k_cProcessor_transferMany_b186 g C (cProcessor_storeMany st x4 x3) x1 H locs ls hI (lv_sub hl [0, 1] rfl) X hF
  · have hF := hF.trans (if_neg c_151)
    refine lv_aload_n hx hb dX5_transferMany_154 rfl (lv_at hl 0 rfl) ?_
    refine lv_iload hx hb dX5_transferMany_155 (lv_at hl 3 rfl) ?_
    refine cx_Vv (As := [.int x4]) (rest := []) C (c_cProcessor_loadMany l g st x4) (cwV 1 hts (gd_V _ mw658 mw659 mw660 mw46 mw661) rfl rfl rfl yd_yX5_loadMany ⟨Nat.le_of_ble_eq_true rfl, Nat.le_of_ble_eq_true rfl⟩) (va_recv hK hI.1 (ci := 5) (q0 := 19) rfl rfl) hI rfl hl.1 rfl (Nat.le_of_ble_eq_true rfl) dX5_transferMany_157 (fun H locs hI => ?_)
    exact k_cProcessor_transferMany_b160 g C (cProcessor_loadMany st x4) x1 H locs ls hI (lv_sub hl [0, 1] rfl) X hF
def cProcessor_transferMany_b142 (st : CS) (x1 : Int32) (x3 : Int32) (x4 : Int32) (y1 : Int32) (y0 : Int32) : CS × Int32 := (cProcessor_transferMany_b145 (cProcessor_become st y1 y0) x1 x3 x4)
set_option maxHeartbeats 4000000 in
set_option maxRecDepth 100000 in
theorem k_cProcessor_transferMany_b142 {p : Program} {l : Launch} {e : Env} {s : State} {m : MethodId} {args : Array Value} {below : List Frame} {meth : Method} {c : Code} {A : Nat → Prop} (g : Gm) (C : cX p s m args meth c A cX5_transferMany (some .int) 5 RX5 wq_X5_transferMany (gD g) vwCl (cty g) (cz g)) (st : CS) (x1 : Int32) (x3 : Int32) (x4 : Int32) (y1 : Int32) (y0 : Int32) (H : Heap) (locs : List Loc) (ls : Array Slot) (hI : cI (gD g) vwCl (cw g) A s st H locs) (hl : lv_has ls 5 [(0, .ref (gad g 19)), (1, .int x1), (3, .int x3), (4, .int x4)]) (X : CS × Int32) (hF : X = cProcessor_transferMany_b142 st x1 x3 x4 y1 y0) : W p l e rm_cProcessor_transferMany s m args below meth c H locs 0 0 (MQ below (cQi (gD g) vwCl (cty g) (cw g) A X.1 X.2) args s 0 0 A) (F0 m 142 ls [.int y0, .int y1, .ref (gad g 19)]) := by
  obtain ⟨hx, hb, hr, hml, hown, hts, hlocks, hK, hA, hZ, hzo⟩ := id C
  unfold cProcessor_transferMany_b142 at hF
  refine cx_Vv (As := [.int y1, .int y0]) (rest := []) C (c_cProcessor_become l g st y1 y0) (cwV 2 hts (gd_V _ mw477 mw478 mw479 mw46 mw480) rfl rfl rfl yd_yX5_become ⟨Nat.le_of_ble_eq_true rfl, Nat.le_of_ble_eq_true rfl⟩) (va_recv hK hI.1 (ci := 5) (q0 := 19) rfl rfl) hI rfl hl.1 rfl (Nat.le_of_ble_eq_true rfl) dX5_transferMany_142 (fun H locs hI => ?_)
  exact k_cProcessor_transferMany_b145 g C (cProcessor_become st y1 y0) x1 x3 x4 H locs ls hI (lv_sub hl [0, 1, 2, 3] rfl) X hF
def cProcessor_transferMany_b94 (st : CS) (x1 : Int32) (x2 : Int32) (x3 : Int32) (x4 : Int32) (y0 : Int32) : CS × Int32 := (if (y0 = 0) then ((cProcessor_take st (3 : Int32)).1, (cProcessor_take st (3 : Int32)).2) else (if ((cProcessor_is st (2097152 : Int32)) = 0) then (cProcessor_transferMany_b145 st x1 x3 x4) else (if (x2 = (15 : Int32)) then (cProcessor_transferMany_b145 st x1 x3 x4) else (if ((cProcessor_is st (8388608 : Int32)) = 0) then (cProcessor_transferMany_b142 st x1 x3 x4 x2 (x3 - ((4 : Int32) * x1))) else (cProcessor_transferMany_b142 st x1 x3 x4 x2 (x3 + ((4 : Int32) * x1)))))))
set_option maxHeartbeats 4000000 in
set_option maxRecDepth 100000 in
theorem k_cProcessor_transferMany_b94 {p : Program} {l : Launch} {e : Env} {s : State} {m : MethodId} {args : Array Value} {below : List Frame} {meth : Method} {c : Code} {A : Nat → Prop} (g : Gm) (C : cX p s m args meth c A cX5_transferMany (some .int) 5 RX5 wq_X5_transferMany (gD g) vwCl (cty g) (cz g)) (st : CS) (x1 : Int32) (x2 : Int32) (x3 : Int32) (x4 : Int32) (y0 : Int32) (H : Heap) (locs : List Loc) (ls : Array Slot) (hI : cI (gD g) vwCl (cw g) A s st H locs) (hl : lv_has ls 5 [(0, .ref (gad g 19)), (1, .int x1), (2, .int x2), (3, .int x3), (4, .int x4)]) (X : CS × Int32) (hF : X = cProcessor_transferMany_b94 st x1 x2 x3 x4 y0) : W p l e rm_cProcessor_transferMany s m args below meth c H locs 0 0 (MQ below (cQi (gD g) vwCl (cty g) (cw g) A X.1 X.2) args s 0 0 A) (F0 m 94 ls [.int y0]) := by
  obtain ⟨hx, hb, hr, hml, hown, hts, hlocks, hK, hA, hZ, hzo⟩ := id C
  unfold cProcessor_transferMany_b94 at hF
  refine lv_if_ne (tgt := 103) hx hb dX5_transferMany_94 (by decide) (fun c_94 => ?_) (fun c_94 => ?_)
  · have hF := hF.trans (if_neg c_94)
    refine lv_aload_n hx hb dX5_transferMany_103 rfl (lv_at hl 0 rfl) ?_
    refine lv_ldc (v := (2097152 : Int32)) hx hb hown (hts _ (List.mem_cons_of_mem _ mw513)) dX5_transferMany_104 ?_
    refine cx_Vi (As := [.int (2097152 : Int32)]) (rest := []) C (c_cProcessor_is l g st (2097152 : Int32)) (cwV 1 hts (gd_V _ mw397 mw398 mw399 mw46 mw400) rfl rfl rfl yd_yX5_is ⟨Nat.le_of_ble_eq_true rfl, Nat.le_of_ble_eq_true rfl⟩) (va_recv hK hI.1 (ci := 5) (q0 := 19) rfl rfl) hI rfl hl.1 rfl (Nat.le_of_ble_eq_true rfl) dX5_transferMany_106 (fun H locs hI => ?_)
    refine lv_if_eq (tgt := 145) hx hb dX5_transferMany_109 (by decide) (fun c_109 => ?_) (fun c_109 => ?_)
    · have hF := hF.trans (if_pos c_109)
      exact k_cProcessor_transferMany_b145 g C st x1 x3 x4 H locs ls hI (lv_sub hl [0, 1, 3, 4] rfl) X hF
    · have hF := hF.trans (if_neg c_109)
      refine lv_iload_n hx hb dX5_transferMany_112 rfl (lv_at hl 2 rfl) ?_
      refine lv_bipush (v := (15 : Int32)) hx hb dX5_transferMany_113 (by decide) ?_
      refine lv_icmp_eq (tgt := 145) hx hb dX5_transferMany_115 (by decide) (fun c_115 => ?_) (fun c_115 => ?_)
      · have hF := hF.trans (if_pos c_115)
        exact k_cProcessor_transferMany_b145 g C st x1 x3 x4 H locs ls hI (lv_sub hl [0, 1, 3, 4] rfl) X hF
      · have hF := hF.trans (if_neg c_115)
        refine lv_aload_n hx hb dX5_transferMany_118 rfl (lv_at hl 0 rfl) ?_
        refine lv_iload_n hx hb dX5_transferMany_119 rfl (lv_at hl 2 rfl) ?_
        refine lv_aload_n hx hb dX5_transferMany_120 rfl (lv_at hl 0 rfl) ?_
        refine lv_ldc (v := (8388608 : Int32)) hx hb hown (hts _ (List.mem_cons_of_mem _ mw524)) dX5_transferMany_121 ?_
        refine cx_Vi (As := [.int (8388608 : Int32)]) (rest := [.int x2, .ref (gad g 19)]) C (c_cProcessor_is l g st (8388608 : Int32)) (cwV 1 hts (gd_V _ mw397 mw398 mw399 mw46 mw400) rfl rfl rfl yd_yX5_is ⟨Nat.le_of_ble_eq_true rfl, Nat.le_of_ble_eq_true rfl⟩) (va_recv hK hI.1 (ci := 5) (q0 := 19) rfl rfl) hI rfl hl.1 rfl (Nat.le_of_ble_eq_true rfl) dX5_transferMany_123 (fun H locs hI => ?_)
        refine lv_if_eq (tgt := 137) hx hb dX5_transferMany_126 (by decide) (fun c_126 => ?_) (fun c_126 => ?_)
        · have hF := hF.trans (if_pos c_126)
          refine lv_iload_n hx hb dX5_transferMany_137 rfl (lv_at hl 3 rfl) ?_
          refine lv_iconst (v := (4 : Int32)) hx hb dX5_transferMany_138 (by decide) ?_
          refine lv_iload_n hx hb dX5_transferMany_139 rfl (lv_at hl 1 rfl) ?_
          refine lv_imul hx hb dX5_transferMany_140 ?_
          refine lv_isub hx hb dX5_transferMany_141 ?_
          exact k_cProcessor_transferMany_b142 g C st x1 x3 x4 x2 (x3 - ((4 : Int32) * x1)) H locs ls hI (lv_sub hl [0, 1, 3, 4] rfl) X hF
        · have hF := hF.trans (if_neg c_126)
          refine lv_iload_n hx hb dX5_transferMany_129 rfl (lv_at hl 3 rfl) ?_
          refine lv_iconst (v := (4 : Int32)) hx hb dX5_transferMany_130 (by decide) ?_
          refine lv_iload_n hx hb dX5_transferMany_131 rfl (lv_at hl 1 rfl) ?_
          refine lv_imul hx hb dX5_transferMany_132 ?_
          refine lv_iadd hx hb dX5_transferMany_133 ?_
          refine lv_goto (tgt := 142) hx hb dX5_transferMany_134 (by decide) ?_
          exact k_cProcessor_transferMany_b142 g C st x1 x3 x4 x2 (x3 + ((4 : Int32) * x1)) H locs ls hI (lv_sub hl [0, 1, 3, 4] rfl) X hF
  · have hF := hF.trans (if_pos c_94)
    refine lv_aload_n hx hb dX5_transferMany_97 rfl (lv_at hl 0 rfl) ?_
    refine lv_iconst (v := (3 : Int32)) hx hb dX5_transferMany_98 (by decide) ?_
    refine cx_Vi (As := [.int (3 : Int32)]) (rest := []) C (c_cProcessor_take l g st (3 : Int32)) (cwV 1 hts (gd_V _ mw401 mw402 mw403 mw46 mw404) rfl rfl rfl yd_yX5_take ⟨Nat.le_of_ble_eq_true rfl, Nat.le_of_ble_eq_true rfl⟩) (va_recv hK hI.1 (ci := 5) (q0 := 19) rfl rfl) hI rfl hl.1 rfl (Nat.le_of_ble_eq_true rfl) dX5_transferMany_99 (fun H locs hI => ?_)
    exact cx_iret C hI (congrArg Prod.fst hF) (congrArg Prod.snd hF) dX5_transferMany_102
def cProcessor_transferMany_b70 (st : CS) (x1 : Int32) (x2 : Int32) (x3 : Int32) (y1 : Int32) (y0 : Int32) : CS × Int32 := (if ((ushr (y1 + y0) (26 : Int32)) = 0) then (cProcessor_transferMany_b94 (cProcessor_findAll st (y1 + y0) x1).1 x1 x2 x3 (y1 + y0) (cProcessor_findAll st (y1 + y0) x1).2) else ((cProcessor_take st (4 : Int32)).1, (cProcessor_take st (4 : Int32)).2))
set_option maxHeartbeats 4000000 in
set_option maxRecDepth 100000 in
theorem k_cProcessor_transferMany_b70 {p : Program} {l : Launch} {e : Env} {s : State} {m : MethodId} {args : Array Value} {below : List Frame} {meth : Method} {c : Code} {A : Nat → Prop} (g : Gm) (C : cX p s m args meth c A cX5_transferMany (some .int) 5 RX5 wq_X5_transferMany (gD g) vwCl (cty g) (cz g)) (st : CS) (x1 : Int32) (x2 : Int32) (x3 : Int32) (y1 : Int32) (y0 : Int32) (H : Heap) (locs : List Loc) (ls : Array Slot) (hI : cI (gD g) vwCl (cw g) A s st H locs) (hl : lv_has ls 5 [(0, .ref (gad g 19)), (1, .int x1), (2, .int x2), (3, .int x3)]) (X : CS × Int32) (hF : X = cProcessor_transferMany_b70 st x1 x2 x3 y1 y0) : W p l e rm_cProcessor_transferMany s m args below meth c H locs 0 0 (MQ below (cQi (gD g) vwCl (cty g) (cw g) A X.1 X.2) args s 0 0 A) (F0 m 70 ls [.int y0, .int y1]) := by
  obtain ⟨hx, hb, hr, hml, hown, hts, hlocks, hK, hA, hZ, hzo⟩ := id C
  unfold cProcessor_transferMany_b70 at hF
  refine lv_iadd hx hb dX5_transferMany_70 ?_
  refine lv_istore (lv' := [(4, .int (y1 + y0)), (0, .ref (gad g 19)), (1, .int x1), (2, .int x2), (3, .int x3)]) hx hb dX5_transferMany_71 hl (by decide) rfl (fun ls hl => ?_)
  refine lv_iload hx hb dX5_transferMany_73 (lv_at hl 0 rfl) ?_
  refine lv_bipush (v := (26 : Int32)) hx hb dX5_transferMany_75 (by decide) ?_
  refine lv_iushr (v := (ushr (y1 + y0) (26 : Int32))) hx hb dX5_transferMany_77 rfl ?_
  refine lv_if_eq (tgt := 87) hx hb dX5_transferMany_78 (by decide) (fun c_78 => ?_) (fun c_78 => ?_)
  · have hF := hF.trans (if_pos c_78)
    refine lv_aload_n hx hb dX5_transferMany_87 rfl (lv_at hl 1 rfl) ?_
    refine lv_iload hx hb dX5_transferMany_88 (lv_at hl 0 rfl) ?_
    refine lv_iload_n hx hb dX5_transferMany_90 rfl (lv_at hl 2 rfl) ?_
    refine cx_Vi (As := [.int (y1 + y0), .int x1]) (rest := []) C (c_cProcessor_findAll l g st (y1 + y0) x1) (cwV 2 hts (gd_V _ mw654 mw655 mw656 mw46 mw657) rfl rfl rfl yd_yX5_findAll ⟨Nat.le_of_ble_eq_true rfl, Nat.le_of_ble_eq_true rfl⟩) (va_recv hK hI.1 (ci := 5) (q0 := 19) rfl rfl) hI rfl hl.1 rfl (Nat.le_of_ble_eq_true rfl) dX5_transferMany_91 (fun H locs hI => ?_)
    exact k_cProcessor_transferMany_b94 g C (cProcessor_findAll st (y1 + y0) x1).1 x1 x2 x3 (y1 + y0) (cProcessor_findAll st (y1 + y0) x1).2 H locs ls hI (lv_sub hl [1, 2, 3, 4, 0] rfl) X hF
  · have hF := hF.trans (if_neg c_78)
    refine lv_aload_n hx hb dX5_transferMany_81 rfl (lv_at hl 1 rfl) ?_
    refine lv_iconst (v := (4 : Int32)) hx hb dX5_transferMany_82 (by decide) ?_
    refine cx_Vi (As := [.int (4 : Int32)]) (rest := []) C (c_cProcessor_take l g st (4 : Int32)) (cwV 1 hts (gd_V _ mw401 mw402 mw403 mw46 mw404) rfl rfl rfl yd_yX5_take ⟨Nat.le_of_ble_eq_true rfl, Nat.le_of_ble_eq_true rfl⟩) (va_recv hK hI.1 (ci := 5) (q0 := 19) rfl rfl) hI rfl hl.1 rfl (Nat.le_of_ble_eq_true rfl) dX5_transferMany_83 (fun H locs hI => ?_)
    exact cx_iret C hI (congrArg Prod.fst hF) (congrArg Prod.snd hF) dX5_transferMany_86
def cProcessor_transferMany_b50 (st : CS) (x1 : Int32) (x2 : Int32) (x3 : Int32) (y0 : Int32) : CS × Int32 := (if ((cProcessor_is st (8388608 : Int32)) = (cProcessor_is st (16777216 : Int32))) then (cProcessor_transferMany_b70 st x1 x2 x3 y0 (4 : Int32)) else (cProcessor_transferMany_b70 st x1 x2 x3 y0 (0 : Int32)))
set_option maxHeartbeats 4000000 in
set_option maxRecDepth 100000 in
theorem k_cProcessor_transferMany_b50 {p : Program} {l : Launch} {e : Env} {s : State} {m : MethodId} {args : Array Value} {below : List Frame} {meth : Method} {c : Code} {A : Nat → Prop} (g : Gm) (C : cX p s m args meth c A cX5_transferMany (some .int) 5 RX5 wq_X5_transferMany (gD g) vwCl (cty g) (cz g)) (st : CS) (x1 : Int32) (x2 : Int32) (x3 : Int32) (y0 : Int32) (H : Heap) (locs : List Loc) (ls : Array Slot) (hI : cI (gD g) vwCl (cw g) A s st H locs) (hl : lv_has ls 5 [(0, .ref (gad g 19)), (1, .int x1), (2, .int x2), (3, .int x3)]) (X : CS × Int32) (hF : X = cProcessor_transferMany_b50 st x1 x2 x3 y0) : W p l e rm_cProcessor_transferMany s m args below meth c H locs 0 0 (MQ below (cQi (gD g) vwCl (cty g) (cw g) A X.1 X.2) args s 0 0 A) (F0 m 50 ls [.int y0]) := by
  obtain ⟨hx, hb, hr, hml, hown, hts, hlocks, hK, hA, hZ, hzo⟩ := id C
  unfold cProcessor_transferMany_b50 at hF
  refine lv_aload_n hx hb dX5_transferMany_50 rfl (lv_at hl 0 rfl) ?_
  refine lv_ldc (v := (8388608 : Int32)) hx hb hown (hts _ (List.mem_cons_of_mem _ mw524)) dX5_transferMany_51 ?_
  refine cx_Vi (As := [.int (8388608 : Int32)]) (rest := [.int y0]) C (c_cProcessor_is l g st (8388608 : Int32)) (cwV 1 hts (gd_V _ mw397 mw398 mw399 mw46 mw400) rfl rfl rfl yd_yX5_is ⟨Nat.le_of_ble_eq_true rfl, Nat.le_of_ble_eq_true rfl⟩) (va_recv hK hI.1 (ci := 5) (q0 := 19) rfl rfl) hI rfl hl.1 rfl (Nat.le_of_ble_eq_true rfl) dX5_transferMany_53 (fun H locs hI => ?_)
  refine lv_aload_n hx hb dX5_transferMany_56 rfl (lv_at hl 0 rfl) ?_
  refine lv_ldc (v := (16777216 : Int32)) hx hb hown (hts _ (List.mem_cons_of_mem _ mw360)) dX5_transferMany_57 ?_
  refine cx_Vi (As := [.int (16777216 : Int32)]) (rest := [.int (cProcessor_is st (8388608 : Int32)), .int y0]) C (c_cProcessor_is l g st (16777216 : Int32)) (cwV 1 hts (gd_V _ mw397 mw398 mw399 mw46 mw400) rfl rfl rfl yd_yX5_is ⟨Nat.le_of_ble_eq_true rfl, Nat.le_of_ble_eq_true rfl⟩) (va_recv hK hI.1 (ci := 5) (q0 := 19) rfl rfl) hI rfl hl.1 rfl (Nat.le_of_ble_eq_true rfl) dX5_transferMany_59 (fun H locs hI => ?_)
  refine lv_icmp_ne (tgt := 69) hx hb dX5_transferMany_62 (by decide) (fun c_62 => ?_) (fun c_62 => ?_)
  · have hF := hF.trans (if_neg c_62)
    refine lv_iconst (v := (0 : Int32)) hx hb dX5_transferMany_69 (by decide) ?_
    exact k_cProcessor_transferMany_b70 g C st x1 x2 x3 y0 (0 : Int32) H locs ls hI (lv_sub hl [0, 1, 2, 3] rfl) X hF
  · have hF := hF.trans (if_pos c_62)
    refine lv_iconst (v := (4 : Int32)) hx hb dX5_transferMany_65 (by decide) ?_
    refine lv_goto (tgt := 70) hx hb dX5_transferMany_66 (by decide) ?_
    exact k_cProcessor_transferMany_b70 g C st x1 x2 x3 y0 (4 : Int32) H locs ls hI (lv_sub hl [0, 1, 2, 3] rfl) X hF
def cProcessor_transferMany (st : CS) : CS × Int32 := (if ((cInteger_bitCount ((gI st 32) &&& (65535 : Int32))) = 0) then (st, (1 : Int32)) else (if ((cProcessor_is st (8388608 : Int32)) = 0) then (cProcessor_transferMany_b50 st (cInteger_bitCount ((gI st 32) &&& (65535 : Int32))) (cProcessor_part st (16 : Int32)) (cProcessor_operand st (cProcessor_part st (16 : Int32)) (8 : Int32)) ((cProcessor_operand st (cProcessor_part st (16 : Int32)) (8 : Int32)) - ((4 : Int32) * (cInteger_bitCount ((gI st 32) &&& (65535 : Int32)))))) else (cProcessor_transferMany_b50 st (cInteger_bitCount ((gI st 32) &&& (65535 : Int32))) (cProcessor_part st (16 : Int32)) (cProcessor_operand st (cProcessor_part st (16 : Int32)) (8 : Int32)) (cProcessor_operand st (cProcessor_part st (16 : Int32)) (8 : Int32)))))
set_option maxHeartbeats 4000000 in
set_option maxRecDepth 100000 in
theorem k_cProcessor_transferMany {p : Program} {l : Launch} {e : Env} {s : State} {m : MethodId} {args : Array Value} {below : List Frame} {meth : Method} {c : Code} {A : Nat → Prop} (g : Gm) (C : cX p s m args meth c A cX5_transferMany (some .int) 5 RX5 wq_X5_transferMany (gD g) vwCl (cty g) (cz g)) (st : CS) (H : Heap) (locs : List Loc) (ls : Array Slot) (hI : cI (gD g) vwCl (cw g) A s st H locs) (hl : lv_has ls 5 [(0, .ref (gad g 19))]) (X : CS × Int32) (hF : X = cProcessor_transferMany st) : W p l e rm_cProcessor_transferMany s m args below meth c H locs 0 0 (MQ below (cQi (gD g) vwCl (cty g) (cw g) A X.1 X.2) args s 0 0 A) (F0 m 0 ls []) := by
  obtain ⟨hx, hb, hr, hml, hown, hts, hlocks, hK, hA, hZ, hzo⟩ := id C
  unfold cProcessor_transferMany at hF
  refine lv_aload_n hx hb dX5_transferMany_0 rfl (lv_at hl 0 rfl) ?_
  refine va_get (D := gD g) (ci := 5) (C := RX5) (T := TX5) (N := 10) (v := .int (gI st 32)) hx hb hts (fun w h => List.mem_cons_of_mem _ (isX50 w h)) hown hK hI.1 19 rfl rfl 6 (by decide) (hts _ (List.mem_cons_of_mem _ mw311)) (fun _ h9 => h9) rfl dX5_transferMany_1 ?_
  refine lv_ldc (v := (65535 : Int32)) hx hb hown (hts _ (List.mem_cons_of_mem _ mw645)) dX5_transferMany_4 ?_
  refine lv_iand hx hb dX5_transferMany_6 ?_
  refine cx_Si (As := [.int ((gI st 32) &&& (65535 : Int32))]) (rest := []) C (c_cInteger_bitCount l g st ((gI st 32) &&& (65535 : Int32))) (va_cwS 1 hts (gd_S _ mw647 mw648 mw649 mw650) rfl rfl rfl yd_yJ6_bitCount_0f7a4 ⟨Nat.le_of_ble_eq_true rfl, Nat.le_of_ble_eq_true rfl⟩) hI rfl hl.1 rfl (Nat.le_of_ble_eq_true rfl) dX5_transferMany_7 (fun H locs hI => ?_)
  refine lv_istore_n (lv' := [(1, .int (cInteger_bitCount ((gI st 32) &&& (65535 : Int32)))), (0, .ref (gad g 19))]) hx hb dX5_transferMany_10 rfl hl (by decide) rfl (fun ls hl => ?_)
  refine lv_iload_n hx hb dX5_transferMany_11 rfl (lv_at hl 0 rfl) ?_
  refine lv_if_ne (tgt := 17) hx hb dX5_transferMany_12 (by decide) (fun c_12 => ?_) (fun c_12 => ?_)
  · have hF := hF.trans (if_neg c_12)
    refine lv_aload_n hx hb dX5_transferMany_17 rfl (lv_at hl 1 rfl) ?_
    refine lv_bipush (v := (16 : Int32)) hx hb dX5_transferMany_18 (by decide) ?_
    refine cx_Vi (As := [.int (16 : Int32)]) (rest := []) C (c_cProcessor_part l g st (16 : Int32)) (cwV 1 hts (gd_V _ mw393 mw394 mw395 mw46 mw396) rfl rfl rfl yd_yX5_part ⟨Nat.le_of_ble_eq_true rfl, Nat.le_of_ble_eq_true rfl⟩) (va_recv hK hI.1 (ci := 5) (q0 := 19) rfl rfl) hI rfl hl.1 rfl (Nat.le_of_ble_eq_true rfl) dX5_transferMany_20 (fun H locs hI => ?_)
    refine lv_istore_n (lv' := [(2, .int (cProcessor_part st (16 : Int32))), (1, .int (cInteger_bitCount ((gI st 32) &&& (65535 : Int32)))), (0, .ref (gad g 19))]) hx hb dX5_transferMany_23 rfl hl (by decide) rfl (fun ls hl => ?_)
    refine lv_aload_n hx hb dX5_transferMany_24 rfl (lv_at hl 2 rfl) ?_
    refine lv_iload_n hx hb dX5_transferMany_25 rfl (lv_at hl 0 rfl) ?_
    refine lv_bipush (v := (8 : Int32)) hx hb dX5_transferMany_26 (by decide) ?_
    refine cx_Vi (As := [.int (cProcessor_part st (16 : Int32)), .int (8 : Int32)]) (rest := []) C (c_cProcessor_operand l g st (cProcessor_part st (16 : Int32)) (8 : Int32)) (cwV 2 hts (gd_V _ mw444 mw445 mw446 mw46 mw447) rfl rfl rfl yd_yX5_operand ⟨Nat.le_of_ble_eq_true rfl, Nat.le_of_ble_eq_true rfl⟩) (va_recv hK hI.1 (ci := 5) (q0 := 19) rfl rfl) hI rfl hl.1 rfl (Nat.le_of_ble_eq_true rfl) dX5_transferMany_28 (fun H locs hI => ?_)
    refine lv_istore_n (lv' := [(3, .int (cProcessor_operand st (cProcessor_part st (16 : Int32)) (8 : Int32))), (2, .int (cProcessor_part st (16 : Int32))), (1, .int (cInteger_bitCount ((gI st 32) &&& (65535 : Int32)))), (0, .ref (gad g 19))]) hx hb dX5_transferMany_31 rfl hl (by decide) rfl (fun ls hl => ?_)
    refine lv_aload_n hx hb dX5_transferMany_32 rfl (lv_at hl 3 rfl) ?_
    refine lv_ldc (v := (8388608 : Int32)) hx hb hown (hts _ (List.mem_cons_of_mem _ mw524)) dX5_transferMany_33 ?_
    refine cx_Vi (As := [.int (8388608 : Int32)]) (rest := []) C (c_cProcessor_is l g st (8388608 : Int32)) (cwV 1 hts (gd_V _ mw397 mw398 mw399 mw46 mw400) rfl rfl rfl yd_yX5_is ⟨Nat.le_of_ble_eq_true rfl, Nat.le_of_ble_eq_true rfl⟩) (va_recv hK hI.1 (ci := 5) (q0 := 19) rfl rfl) hI rfl hl.1 rfl (Nat.le_of_ble_eq_true rfl) dX5_transferMany_35 (fun H locs hI => ?_)
    refine lv_if_eq (tgt := 45) hx hb dX5_transferMany_38 (by decide) (fun c_38 => ?_) (fun c_38 => ?_)
    · have hF := hF.trans (if_pos c_38)
      refine lv_iload_n hx hb dX5_transferMany_45 rfl (lv_at hl 0 rfl) ?_
      refine lv_iconst (v := (4 : Int32)) hx hb dX5_transferMany_46 (by decide) ?_
      refine lv_iload_n hx hb dX5_transferMany_47 rfl (lv_at hl 2 rfl) ?_
      refine lv_imul hx hb dX5_transferMany_48 ?_
      refine lv_isub hx hb dX5_transferMany_49 ?_
      exact k_cProcessor_transferMany_b50 g C st (cInteger_bitCount ((gI st 32) &&& (65535 : Int32))) (cProcessor_part st (16 : Int32)) (cProcessor_operand st (cProcessor_part st (16 : Int32)) (8 : Int32)) ((cProcessor_operand st (cProcessor_part st (16 : Int32)) (8 : Int32)) - ((4 : Int32) * (cInteger_bitCount ((gI st 32) &&& (65535 : Int32))))) H locs ls hI (lv_sub hl [3, 2, 1, 0] rfl) X hF
    · have hF := hF.trans (if_neg c_38)
      refine lv_iload_n hx hb dX5_transferMany_41 rfl (lv_at hl 0 rfl) ?_
      refine lv_goto (tgt := 50) hx hb dX5_transferMany_42 (by decide) ?_
      exact k_cProcessor_transferMany_b50 g C st (cInteger_bitCount ((gI st 32) &&& (65535 : Int32))) (cProcessor_part st (16 : Int32)) (cProcessor_operand st (cProcessor_part st (16 : Int32)) (8 : Int32)) (cProcessor_operand st (cProcessor_part st (16 : Int32)) (8 : Int32)) H locs ls hI (lv_sub hl [3, 2, 1, 0] rfl) X hF
  · have hF := hF.trans (if_pos c_12)
    refine lv_iconst (v := (1 : Int32)) hx hb dX5_transferMany_15 (by decide) ?_
    exact cx_iret C hI (congrArg Prod.fst hF) (congrArg Prod.snd hF) dX5_transferMany_16
set_option maxHeartbeats 4000000 in
set_option maxRecDepth 100000 in
theorem c_cProcessor_transferMany (l : Launch) (g : Gm) (st : CS) : Mi l yX5_transferMany wq_X5_transferMany rm_cProcessor_transferMany (gD g) vwCl (cty g) (cw g) (cz g) [.ref (gad g 19)] st (cProcessor_transferMany st).1 (cProcessor_transferMany st).2 := by
  intro sz
  refine Met.ofW (cc := cX5_transferMany) (maxL := 5) (ret := (some .int)) (by decide) rfl ?_
  intro p e s m args below meth c s₁ B hml hv
  obtain ⟨rfl, hsz, hP, hK, hD0, hZ⟩ := hv
  subst hsz
  have hl := lv_entry ([.ref (gad g 19)]) (n := 5) (Nat.le_of_ble_eq_true rfl)
  rw [lg_entry_eq]
  generalize (lg_sl ([.ref (gad g 19)]) ++ List.replicate (5 - (lg_sl ([.ref (gad g 19)])).length) Slot.unset).toArray = ls at hl ⊢
  exact k_cProcessor_transferMany g ⟨B.exec, B.bytes, B.returns, hml, findClass_of_methodNamed B.named, atoms_spec (ws := wq_X5_transferMany) B.pre, B.notSynchronized, hK, fun q h => Or.inr h, hZ, cz_ok g⟩ st  _ _ ls ⟨hP, hD0.self, va_S.rf⟩ hl _ rfl
abbrev wq_X5_isNAsV : List Cond := .code yX5_isNAsV cX5_isNAsV 1 (some .boolean) :: wAll
theorem yd_yX5_isNAsV : yX5_isNAsV.cls = RX5 ∧ yX5_isNAsV.cls ≠ "java/lang/invoke/MethodHandle" ∧ yX5_isNAsV.cls ≠ "java/lang/invoke/VarHandle" ∧ (parseMethodDescriptor yX5_isNAsV.desc).map (fun d => d.parameters.length) = some 0 := by decide +kernel
abbrev rm_cProcessor_isNAsV : Room := { frames := 1, cells := 0, slots := 0, locals := 21 }
def cProcessor_isNAsV (st : CS) : Int32 := (if ((cRegisters_has st (-2147483648 : Int32)) = (cRegisters_has st (268435456 : Int32))) then (1 : Int32) else (0 : Int32))
set_option maxHeartbeats 4000000 in
set_option maxRecDepth 100000 in
theorem k_cProcessor_isNAsV {p : Program} {l : Launch} {e : Env} {s : State} {m : MethodId} {args : Array Value} {below : List Frame} {meth : Method} {c : Code} {A : Nat → Prop} (g : Gm) (C : cX p s m args meth c A cX5_isNAsV (some .boolean) 1 RX5 wq_X5_isNAsV (gD g) vwCl (cty g) (cz g)) (st : CS) (H : Heap) (locs : List Loc) (ls : Array Slot) (hI : cI (gD g) vwCl (cw g) A s st H locs) (hl : lv_has ls 1 [(0, .ref (gad g 19))]) (X : Int32) (hF : X = cProcessor_isNAsV st) : W p l e rm_cProcessor_isNAsV s m args below meth c H locs 0 0 (MQ below (cQi (gD g) vwCl (cty g) (cw g) A st X) args s 0 0 A) (F0 m 0 ls []) := by
  obtain ⟨hx, hb, hr, hml, hown, hts, hlocks, hK, hA, hZ, hzo⟩ := id C
  unfold cProcessor_isNAsV at hF
  refine lv_aload_n hx hb dX5_isNAsV_0 rfl (lv_at hl 0 rfl) ?_
  refine va_get (D := gD g) (ci := 5) (C := RX5) (T := TX5) (N := 10) (v := .ref (gad g 2)) hx hb hts (fun w h => List.mem_cons_of_mem _ (isX50 w h)) hown hK hI.1 19 rfl rfl 0 (by decide) (hts _ (List.mem_cons_of_mem _ mw112)) (fun _ h9 => h9) rfl dX5_isNAsV_1 ?_
  refine lv_ldc (v := (-2147483648 : Int32)) hx hb hown (hts _ (List.mem_cons_of_mem _ mw380)) dX5_isNAsV_4 ?_
  refine cx_Vi (As := [.int (-2147483648 : Int32)]) (rest := []) C (c_cRegisters_has l g st (-2147483648 : Int32)) (cwV 1 hts (gd_V _ mw321 mw322 mw323 mw14 mw324) rfl rfl rfl yd_yX6_has ⟨Nat.le_of_ble_eq_true rfl, Nat.le_of_ble_eq_true rfl⟩) (va_recv hK hI.1 (ci := 6) (q0 := 2) rfl rfl) hI rfl hl.1 rfl (Nat.le_of_ble_eq_true rfl) dX5_isNAsV_6 (fun H locs hI => ?_)
  refine lv_aload_n hx hb dX5_isNAsV_9 rfl (lv_at hl 0 rfl) ?_
  refine va_get (D := gD g) (ci := 5) (C := RX5) (T := TX5) (N := 10) (v := .ref (gad g 2)) hx hb hts (fun w h => List.mem_cons_of_mem _ (isX50 w h)) hown hK hI.1 19 rfl rfl 0 (by decide) (hts _ (List.mem_cons_of_mem _ mw112)) (fun _ h9 => h9) rfl dX5_isNAsV_10 ?_
  refine lv_ldc (v := (268435456 : Int32)) hx hb hown (hts _ (List.mem_cons_of_mem _ mw381)) dX5_isNAsV_13 ?_
  refine cx_Vi (As := [.int (268435456 : Int32)]) (rest := [.int (cRegisters_has st (-2147483648 : Int32))]) C (c_cRegisters_has l g st (268435456 : Int32)) (cwV 1 hts (gd_V _ mw321 mw322 mw323 mw14 mw324) rfl rfl rfl yd_yX6_has ⟨Nat.le_of_ble_eq_true rfl, Nat.le_of_ble_eq_true rfl⟩) (va_recv hK hI.1 (ci := 6) (q0 := 2) rfl rfl) hI rfl hl.1 rfl (Nat.le_of_ble_eq_true rfl) dX5_isNAsV_15 (fun H locs hI => ?_)
  refine lv_icmp_ne (tgt := 25) hx hb dX5_isNAsV_18 (by decide) (fun c_18 => ?_) (fun c_18 => ?_)
  · have hF := hF.trans (if_neg c_18)
    refine lv_iconst (v := (0 : Int32)) hx hb dX5_isNAsV_25 (by decide) ?_
    exact cx_zret C hI rfl hF rfl dX5_isNAsV_26
  · have hF := hF.trans (if_pos c_18)
    refine lv_iconst (v := (1 : Int32)) hx hb dX5_isNAsV_21 (by decide) ?_
    refine lv_goto (tgt := 26) hx hb dX5_isNAsV_22 (by decide) ?_
    exact cx_zret C hI rfl hF rfl dX5_isNAsV_26
set_option maxHeartbeats 4000000 in
set_option maxRecDepth 100000 in
theorem c_cProcessor_isNAsV (l : Launch) (g : Gm) (st : CS) : Mi l yX5_isNAsV wq_X5_isNAsV rm_cProcessor_isNAsV (gD g) vwCl (cty g) (cw g) (cz g) [.ref (gad g 19)] st st (cProcessor_isNAsV st) := by
  intro sz
  refine Met.ofW (cc := cX5_isNAsV) (maxL := 1) (ret := (some .boolean)) (by decide) rfl ?_
  intro p e s m args below meth c s₁ B hml hv
  obtain ⟨rfl, hsz, hP, hK, hD0, hZ⟩ := hv
  subst hsz
  have hl := lv_entry ([.ref (gad g 19)]) (n := 1) (Nat.le_of_ble_eq_true rfl)
  rw [lg_entry_eq]
  generalize (lg_sl ([.ref (gad g 19)]) ++ List.replicate (1 - (lg_sl ([.ref (gad g 19)])).length) Slot.unset).toArray = ls at hl ⊢
  exact k_cProcessor_isNAsV g ⟨B.exec, B.bytes, B.returns, hml, findClass_of_methodNamed B.named, atoms_spec (ws := wq_X5_isNAsV) B.pre, B.notSynchronized, hK, fun q h => Or.inr h, hZ, cz_ok g⟩ st  _ _ ls ⟨hP, hD0.self, va_S.rf⟩ hl _ rfl
theorem cRegisters_has_b (st : CS) (x1 : Int32) : cRegisters_has st x1 = 0 ∨ cRegisters_has st x1 = 1 := by
  unfold cRegisters_has
  split
  · first | exact Or.inl rfl | exact Or.inr rfl
  · first | exact Or.inl rfl | exact Or.inr rfl
theorem cProcessor_isNAsV_b (st : CS) : cProcessor_isNAsV st = 0 ∨ cProcessor_isNAsV st = 1 := by
  unfold cProcessor_isNAsV
  split
  · first | exact Or.inl rfl | exact Or.inr rfl
  · first | exact Or.inl rfl | exact Or.inr rfl
abbrev wq_X5_isEvenSo : List Cond := .code yX5_isEvenSo cX5_isEvenSo 2 (some .boolean) :: wAll
theorem yd_yX5_isEvenSo : yX5_isEvenSo.cls = RX5 ∧ yX5_isEvenSo.cls ≠ "java/lang/invoke/MethodHandle" ∧ yX5_isEvenSo.cls ≠ "java/lang/invoke/VarHandle" ∧ (parseMethodDescriptor yX5_isEvenSo.desc).map (fun d => d.parameters.length) = some 1 := by decide +kernel
abbrev rm_cProcessor_isEvenSo : Room := { frames := 2, cells := 0, slots := 0, locals := 41 }
def cProcessor_isEvenSo (st : CS) (x1 : Int32) : Int32 := (if x1 = (0 : Int32) then (cRegisters_has st (1073741824 : Int32)) else (if x1 = (1 : Int32) then (cRegisters_has st (536870912 : Int32)) else (if x1 = (2 : Int32) then (cRegisters_has st (-2147483648 : Int32)) else (if x1 = (3 : Int32) then (cRegisters_has st (268435456 : Int32)) else (if x1 = (4 : Int32) then (if ((cRegisters_has st (536870912 : Int32)) = 0) then (0 : Int32) else (if ((cRegisters_has st (1073741824 : Int32)) = 0) then (1 : Int32) else (0 : Int32))) else (if x1 = (5 : Int32) then (cProcessor_isNAsV st) else (if x1 = (6 : Int32) then (if ((cProcessor_isNAsV st) = 0) then (0 : Int32) else (if ((cRegisters_has st (1073741824 : Int32)) = 0) then (1 : Int32) else (0 : Int32))) else (1 : Int32))))))))
set_option maxHeartbeats 4000000 in
set_option maxRecDepth 100000 in
theorem k_cProcessor_isEvenSo {p : Program} {l : Launch} {e : Env} {s : State} {m : MethodId} {args : Array Value} {below : List Frame} {meth : Method} {c : Code} {A : Nat → Prop} (g : Gm) (C : cX p s m args meth c A cX5_isEvenSo (some .boolean) 2 RX5 wq_X5_isEvenSo (gD g) vwCl (cty g) (cz g)) (st : CS) (x1 : Int32) (H : Heap) (locs : List Loc) (ls : Array Slot) (hI : cI (gD g) vwCl (cw g) A s st H locs) (hl : lv_has ls 2 [(0, .ref (gad g 19)), (1, .int x1)]) (X : Int32) (hF : X = cProcessor_isEvenSo st x1) : W p l e rm_cProcessor_isEvenSo s m args below meth c H locs 0 0 (MQ below (cQi (gD g) vwCl (cty g) (cw g) A st X) args s 0 0 A) (F0 m 0 ls []) := by
  obtain ⟨hx, hb, hr, hml, hown, hts, hlocks, hK, hA, hZ, hzo⟩ := id C
  unfold cProcessor_isEvenSo at hF
  refine lv_iload_n hx hb dX5_isEvenSo_0 rfl (lv_at hl 1 rfl) ?_
  by_cases c_1_0 : x1 = (0 : Int32)
  · have hF := hF.trans (if_pos c_1_0)
    refine lv_tableIn (off := 43) (tgt := 44) hx hb dX5_isEvenSo_1 (by rw [c_1_0]; decide) (by rw [c_1_0]; decide) (by rw [c_1_0]; rfl) (by decide) ?_
    refine lv_aload_n hx hb dX5_isEvenSo_44 rfl (lv_at hl 0 rfl) ?_
    refine va_get (D := gD g) (ci := 5) (C := RX5) (T := TX5) (N := 10) (v := .ref (gad g 2)) hx hb hts (fun w h => List.mem_cons_of_mem _ (isX50 w h)) hown hK hI.1 19 rfl rfl 0 (by decide) (hts _ (List.mem_cons_of_mem _ mw112)) (fun _ h9 => h9) rfl dX5_isEvenSo_45 ?_
    refine lv_ldc (v := (1073741824 : Int32)) hx hb hown (hts _ (List.mem_cons_of_mem _ mw378)) dX5_isEvenSo_48 ?_
    refine cx_Vi (As := [.int (1073741824 : Int32)]) (rest := []) C (c_cRegisters_has l g st (1073741824 : Int32)) (cwV 1 hts (gd_V _ mw321 mw322 mw323 mw14 mw324) rfl rfl rfl yd_yX6_has ⟨Nat.le_of_ble_eq_true rfl, Nat.le_of_ble_eq_true rfl⟩) (va_recv hK hI.1 (ci := 6) (q0 := 2) rfl rfl) hI rfl hl.1 rfl (Nat.le_of_ble_eq_true rfl) dX5_isEvenSo_50 (fun H locs hI => ?_)
    exact cx_zret C hI rfl hF (nar_b (cRegisters_has_b _ _)) dX5_isEvenSo_53
  · have hF := hF.trans (if_neg c_1_0)
    by_cases c_1_1 : x1 = (1 : Int32)
    · have hF := hF.trans (if_pos c_1_1)
      refine lv_tableIn (off := 53) (tgt := 54) hx hb dX5_isEvenSo_1 (by rw [c_1_1]; decide) (by rw [c_1_1]; decide) (by rw [c_1_1]; rfl) (by decide) ?_
      refine lv_aload_n hx hb dX5_isEvenSo_54 rfl (lv_at hl 0 rfl) ?_
      refine va_get (D := gD g) (ci := 5) (C := RX5) (T := TX5) (N := 10) (v := .ref (gad g 2)) hx hb hts (fun w h => List.mem_cons_of_mem _ (isX50 w h)) hown hK hI.1 19 rfl rfl 0 (by decide) (hts _ (List.mem_cons_of_mem _ mw112)) (fun _ h9 => h9) rfl dX5_isEvenSo_55 ?_
      refine lv_ldc (v := (536870912 : Int32)) hx hb hown (hts _ (List.mem_cons_of_mem _ mw379)) dX5_isEvenSo_58 ?_
      refine cx_Vi (As := [.int (536870912 : Int32)]) (rest := []) C (c_cRegisters_has l g st (536870912 : Int32)) (cwV 1 hts (gd_V _ mw321 mw322 mw323 mw14 mw324) rfl rfl rfl yd_yX6_has ⟨Nat.le_of_ble_eq_true rfl, Nat.le_of_ble_eq_true rfl⟩) (va_recv hK hI.1 (ci := 6) (q0 := 2) rfl rfl) hI rfl hl.1 rfl (Nat.le_of_ble_eq_true rfl) dX5_isEvenSo_60 (fun H locs hI => ?_)
      exact cx_zret C hI rfl hF (nar_b (cRegisters_has_b _ _)) dX5_isEvenSo_63
    · have hF := hF.trans (if_neg c_1_1)
      by_cases c_1_2 : x1 = (2 : Int32)
      · have hF := hF.trans (if_pos c_1_2)
        refine lv_tableIn (off := 63) (tgt := 64) hx hb dX5_isEvenSo_1 (by rw [c_1_2]; decide) (by rw [c_1_2]; decide) (by rw [c_1_2]; rfl) (by decide) ?_
        refine lv_aload_n hx hb dX5_isEvenSo_64 rfl (lv_at hl 0 rfl) ?_
        refine va_get (D := gD g) (ci := 5) (C := RX5) (T := TX5) (N := 10) (v := .ref (gad g 2)) hx hb hts (fun w h => List.mem_cons_of_mem _ (isX50 w h)) hown hK hI.1 19 rfl rfl 0 (by decide) (hts _ (List.mem_cons_of_mem _ mw112)) (fun _ h9 => h9) rfl dX5_isEvenSo_65 ?_
        refine lv_ldc (v := (-2147483648 : Int32)) hx hb hown (hts _ (List.mem_cons_of_mem _ mw380)) dX5_isEvenSo_68 ?_
        refine cx_Vi (As := [.int (-2147483648 : Int32)]) (rest := []) C (c_cRegisters_has l g st (-2147483648 : Int32)) (cwV 1 hts (gd_V _ mw321 mw322 mw323 mw14 mw324) rfl rfl rfl yd_yX6_has ⟨Nat.le_of_ble_eq_true rfl, Nat.le_of_ble_eq_true rfl⟩) (va_recv hK hI.1 (ci := 6) (q0 := 2) rfl rfl) hI rfl hl.1 rfl (Nat.le_of_ble_eq_true rfl) dX5_isEvenSo_70 (fun H locs hI => ?_)
        exact cx_zret C hI rfl hF (nar_b (cRegisters_has_b _ _)) dX5_isEvenSo_73
      · have hF := hF.trans (if_neg c_1_2)
        by_cases c_1_3 : x1 = (3 : Int32)
        · have hF := hF.trans (if_pos c_1_3)
          refine lv_tableIn (off := 73) (tgt := 74) hx hb dX5_isEvenSo_1 (by rw [c_1_3]; decide) (by rw [c_1_3]; decide) (by rw [c_1_3]; rfl) (by decide) ?_
          refine lv_aload_n hx hb dX5_isEvenSo_74 rfl (lv_at hl 0 rfl) ?_
          refine va_get (D := gD g) (ci := 5) (C := RX5) (T := TX5) (N := 10) (v := .ref (gad g 2)) hx hb hts (fun w h => List.mem_cons_of_mem _ (isX50 w h)) hown hK hI.1 19 rfl rfl 0 (by decide) (hts _ (List.mem_cons_of_mem _ mw112)) (fun _ h9 => h9) rfl dX5_isEvenSo_75 ?_
          refine lv_ldc (v := (268435456 : Int32)) hx hb hown (hts _ (List.mem_cons_of_mem _ mw381)) dX5_isEvenSo_78 ?_
          refine cx_Vi (As := [.int (268435456 : Int32)]) (rest := []) C (c_cRegisters_has l g st (268435456 : Int32)) (cwV 1 hts (gd_V _ mw321 mw322 mw323 mw14 mw324) rfl rfl rfl yd_yX6_has ⟨Nat.le_of_ble_eq_true rfl, Nat.le_of_ble_eq_true rfl⟩) (va_recv hK hI.1 (ci := 6) (q0 := 2) rfl rfl) hI rfl hl.1 rfl (Nat.le_of_ble_eq_true rfl) dX5_isEvenSo_80 (fun H locs hI => ?_)
          exact cx_zret C hI rfl hF (nar_b (cRegisters_has_b _ _)) dX5_isEvenSo_83
        · have hF := hF.trans (if_neg c_1_3)
          by_cases c_1_4 : x1 = (4 : Int32)
          · have hF := hF.trans (if_pos c_1_4)
            refine lv_tableIn (off := 83) (tgt := 84) hx hb dX5_isEvenSo_1 (by rw [c_1_4]; decide) (by rw [c_1_4]; decide) (by rw [c_1_4]; rfl) (by decide) ?_
            refine lv_aload_n hx hb dX5_isEvenSo_84 rfl (lv_at hl 0 rfl) ?_
            refine va_get (D := gD g) (ci := 5) (C := RX5) (T := TX5) (N := 10) (v := .ref (gad g 2)) hx hb hts (fun w h => List.mem_cons_of_mem _ (isX50 w h)) hown hK hI.1 19 rfl rfl 0 (by decide) (hts _ (List.mem_cons_of_mem _ mw112)) (fun _ h9 => h9) rfl dX5_isEvenSo_85 ?_
            refine lv_ldc (v := (536870912 : Int32)) hx hb hown (hts _ (List.mem_cons_of_mem _ mw379)) dX5_isEvenSo_88 ?_
            refine cx_Vi (As := [.int (536870912 : Int32)]) (rest := []) C (c_cRegisters_has l g st (536870912 : Int32)) (cwV 1 hts (gd_V _ mw321 mw322 mw323 mw14 mw324) rfl rfl rfl yd_yX6_has ⟨Nat.le_of_ble_eq_true rfl, Nat.le_of_ble_eq_true rfl⟩) (va_recv hK hI.1 (ci := 6) (q0 := 2) rfl rfl) hI rfl hl.1 rfl (Nat.le_of_ble_eq_true rfl) dX5_isEvenSo_90 (fun H locs hI => ?_)
            refine lv_if_eq (tgt := 112) hx hb dX5_isEvenSo_93 (by decide) (fun c_93 => ?_) (fun c_93 => ?_)
            · have hF := hF.trans (if_pos c_93)
              refine lv_iconst (v := (0 : Int32)) hx hb dX5_isEvenSo_112 (by decide) ?_
              exact cx_zret C hI rfl hF rfl dX5_isEvenSo_113
            · have hF := hF.trans (if_neg c_93)
              refine lv_aload_n hx hb dX5_isEvenSo_96 rfl (lv_at hl 0 rfl) ?_
              refine va_get (D := gD g) (ci := 5) (C := RX5) (T := TX5) (N := 10) (v := .ref (gad g 2)) hx hb hts (fun w h => List.mem_cons_of_mem _ (isX50 w h)) hown hK hI.1 19 rfl rfl 0 (by decide) (hts _ (List.mem_cons_of_mem _ mw112)) (fun _ h9 => h9) rfl dX5_isEvenSo_97 ?_
              refine lv_ldc (v := (1073741824 : Int32)) hx hb hown (hts _ (List.mem_cons_of_mem _ mw378)) dX5_isEvenSo_100 ?_
              refine cx_Vi (As := [.int (1073741824 : Int32)]) (rest := []) C (c_cRegisters_has l g st (1073741824 : Int32)) (cwV 1 hts (gd_V _ mw321 mw322 mw323 mw14 mw324) rfl rfl rfl yd_yX6_has ⟨Nat.le_of_ble_eq_true rfl, Nat.le_of_ble_eq_true rfl⟩) (va_recv hK hI.1 (ci := 6) (q0 := 2) rfl rfl) hI rfl hl.1 rfl (Nat.le_of_ble_eq_true rfl) dX5_isEvenSo_102 (fun H locs hI => ?_)
              refine lv_if_ne (tgt := 112) hx hb dX5_isEvenSo_105 (by decide) (fun c_105 => ?_) (fun c_105 => ?_)
              · have hF := hF.trans (if_neg c_105)
                refine lv_iconst (v := (0 : Int32)) hx hb dX5_isEvenSo_112 (by decide) ?_
                exact cx_zret C hI rfl hF rfl dX5_isEvenSo_113
              · have hF := hF.trans (if_pos c_105)
                refine lv_iconst (v := (1 : Int32)) hx hb dX5_isEvenSo_108 (by decide) ?_
                refine lv_goto (tgt := 113) hx hb dX5_isEvenSo_109 (by decide) ?_
                exact cx_zret C hI rfl hF rfl dX5_isEvenSo_113
          · have hF := hF.trans (if_neg c_1_4)
            by_cases c_1_5 : x1 = (5 : Int32)
            · have hF := hF.trans (if_pos c_1_5)
              refine lv_tableIn (off := 113) (tgt := 114) hx hb dX5_isEvenSo_1 (by rw [c_1_5]; decide) (by rw [c_1_5]; decide) (by rw [c_1_5]; rfl) (by decide) ?_
              refine lv_aload_n hx hb dX5_isEvenSo_114 rfl (lv_at hl 0 rfl) ?_
              refine cx_Vi (As := []) (rest := []) C (c_cProcessor_isNAsV l g st ) (cwV 0 hts (gd_V _ mw382 mw383 mw384 mw46 mw385) rfl rfl rfl yd_yX5_isNAsV ⟨Nat.le_of_ble_eq_true rfl, Nat.le_of_ble_eq_true rfl⟩) (va_recv hK hI.1 (ci := 5) (q0 := 19) rfl rfl) hI rfl hl.1 rfl (Nat.le_of_ble_eq_true rfl) dX5_isEvenSo_115 (fun H locs hI => ?_)
              exact cx_zret C hI rfl hF (nar_b (cProcessor_isNAsV_b _)) dX5_isEvenSo_118
            · have hF := hF.trans (if_neg c_1_5)
              by_cases c_1_6 : x1 = (6 : Int32)
              · have hF := hF.trans (if_pos c_1_6)
                refine lv_tableIn (off := 118) (tgt := 119) hx hb dX5_isEvenSo_1 (by rw [c_1_6]; decide) (by rw [c_1_6]; decide) (by rw [c_1_6]; rfl) (by decide) ?_
                refine lv_aload_n hx hb dX5_isEvenSo_119 rfl (lv_at hl 0 rfl) ?_
                refine cx_Vi (As := []) (rest := []) C (c_cProcessor_isNAsV l g st ) (cwV 0 hts (gd_V _ mw382 mw383 mw384 mw46 mw385) rfl rfl rfl yd_yX5_isNAsV ⟨Nat.le_of_ble_eq_true rfl, Nat.le_of_ble_eq_true rfl⟩) (va_recv hK hI.1 (ci := 5) (q0 := 19) rfl rfl) hI rfl hl.1 rfl (Nat.le_of_ble_eq_true rfl) dX5_isEvenSo_120 (fun H locs hI => ?_)
                refine lv_if_eq (tgt := 142) hx hb dX5_isEvenSo_123 (by decide) (fun c_123 => ?_) (fun c_123 => ?_)
                · have hF := hF.trans (if_pos c_123)
                  refine lv_iconst (v := (0 : Int32)) hx hb dX5_isEvenSo_142 (by decide) ?_
                  exact cx_zret C hI rfl hF rfl dX5_isEvenSo_143
                · have hF := hF.trans (if_neg c_123)
                  refine lv_aload_n hx hb dX5_isEvenSo_126 rfl (lv_at hl 0 rfl) ?_
                  refine va_get (D := gD g) (ci := 5) (C := RX5) (T := TX5) (N := 10) (v := .ref (gad g 2)) hx hb hts (fun w h => List.mem_cons_of_mem _ (isX50 w h)) hown hK hI.1 19 rfl rfl 0 (by decide) (hts _ (List.mem_cons_of_mem _ mw112)) (fun _ h9 => h9) rfl dX5_isEvenSo_127 ?_
                  refine lv_ldc (v := (1073741824 : Int32)) hx hb hown (hts _ (List.mem_cons_of_mem _ mw378)) dX5_isEvenSo_130 ?_
                  refine cx_Vi (As := [.int (1073741824 : Int32)]) (rest := []) C (c_cRegisters_has l g st (1073741824 : Int32)) (cwV 1 hts (gd_V _ mw321 mw322 mw323 mw14 mw324) rfl rfl rfl yd_yX6_has ⟨Nat.le_of_ble_eq_true rfl, Nat.le_of_ble_eq_true rfl⟩) (va_recv hK hI.1 (ci := 6) (q0 := 2) rfl rfl) hI rfl hl.1 rfl (Nat.le_of_ble_eq_true rfl) dX5_isEvenSo_132 (fun H locs hI => ?_)
                  refine lv_if_ne (tgt := 142) hx hb dX5_isEvenSo_135 (by decide) (fun c_135 => ?_) (fun c_135 => ?_)
                  · have hF := hF.trans (if_neg c_135)
                    refine lv_iconst (v := (0 : Int32)) hx hb dX5_isEvenSo_142 (by decide) ?_
                    exact cx_zret C hI rfl hF rfl dX5_isEvenSo_143
                  · have hF := hF.trans (if_pos c_135)
                    refine lv_iconst (v := (1 : Int32)) hx hb dX5_isEvenSo_138 (by decide) ?_
                    refine lv_goto (tgt := 143) hx hb dX5_isEvenSo_139 (by decide) ?_
                    exact cx_zret C hI rfl hF rfl dX5_isEvenSo_143
              · have hF := hF.trans (if_neg c_1_6)
                refine lv_tableOut (tgt := 144) hx hb dX5_isEvenSo_1 (by have h0 := lv_neT (a := 0) c_1_0 (by decide); have h1 := lv_neT (a := 1) c_1_1 (by decide); have h2 := lv_neT (a := 2) c_1_2 (by decide); have h3 := lv_neT (a := 3) c_1_3 (by decide); have h4 := lv_neT (a := 4) c_1_4 (by decide); have h5 := lv_neT (a := 5) c_1_5 (by decide); have h6 := lv_neT (a := 6) c_1_6 (by decide); omega) (by decide) ?_
                refine lv_iconst (v := (1 : Int32)) hx hb dX5_isEvenSo_144 (by decide) ?_
                exact cx_zret C hI rfl hF rfl dX5_isEvenSo_145
set_option maxHeartbeats 4000000 in
set_option maxRecDepth 100000 in
theorem c_cProcessor_isEvenSo (l : Launch) (g : Gm) (st : CS) (x1 : Int32) : Mi l yX5_isEvenSo wq_X5_isEvenSo rm_cProcessor_isEvenSo (gD g) vwCl (cty g) (cw g) (cz g) [.ref (gad g 19), .int x1] st st (cProcessor_isEvenSo st x1) := by
  intro sz
  refine Met.ofW (cc := cX5_isEvenSo) (maxL := 2) (ret := (some .boolean)) (by decide) rfl ?_
  intro p e s m args below meth c s₁ B hml hv
  obtain ⟨rfl, hsz, hP, hK, hD0, hZ⟩ := hv
  subst hsz
  have hl := lv_entry ([.ref (gad g 19), .int x1]) (n := 2) (Nat.le_of_ble_eq_true rfl)
  rw [lg_entry_eq]
  generalize (lg_sl ([.ref (gad g 19), .int x1]) ++ List.replicate (2 - (lg_sl ([.ref (gad g 19), .int x1])).length) Slot.unset).toArray = ls at hl ⊢
  exact k_cProcessor_isEvenSo g ⟨B.exec, B.bytes, B.returns, hml, findClass_of_methodNamed B.named, atoms_spec (ws := wq_X5_isEvenSo) B.pre, B.notSynchronized, hK, fun q h => Or.inr h, hZ, cz_ok g⟩ st x1 _ _ ls ⟨hP, hD0.self, va_S.rf⟩ hl _ rfl
abbrev wq_X5_isSo : List Cond := .code yX5_isSo cX5_isSo 2 (some .boolean) :: wAll
theorem yd_yX5_isSo : yX5_isSo.cls = RX5 ∧ yX5_isSo.cls ≠ "java/lang/invoke/MethodHandle" ∧ yX5_isSo.cls ≠ "java/lang/invoke/VarHandle" ∧ (parseMethodDescriptor yX5_isSo.desc).map (fun d => d.parameters.length) = some 1 := by decide +kernel
abbrev rm_cProcessor_isSo : Room := { frames := 3, cells := 0, slots := 0, locals := 62 }
def cProcessor_isSo_b18 (st : CS) (y1 : Int32) (y0 : Int32) : Int32 := (if (y1 = y0) then (1 : Int32) else (0 : Int32))
set_option maxHeartbeats 4000000 in
set_option maxRecDepth 100000 in
theorem k_cProcessor_isSo_b18 {p : Program} {l : Launch} {e : Env} {s : State} {m : MethodId} {args : Array Value} {below : List Frame} {meth : Method} {c : Code} {A : Nat → Prop} (g : Gm) (C : cX p s m args meth c A cX5_isSo (some .boolean) 2 RX5 wq_X5_isSo (gD g) vwCl (cty g) (cz g)) (st : CS) (y1 : Int32) (y0 : Int32) (H : Heap) (locs : List Loc) (ls : Array Slot) (hI : cI (gD g) vwCl (cw g) A s st H locs) (hl : lv_has ls 2 [(0, .ref (gad g 19))]) (X : Int32) (hF : X = cProcessor_isSo_b18 st y1 y0) : W p l e rm_cProcessor_isSo s m args below meth c H locs 0 0 (MQ below (cQi (gD g) vwCl (cty g) (cw g) A st X) args s 0 0 A) (F0 m 18 ls [.int y0, .int y1]) := by
  obtain ⟨hx, hb, hr, hml, hown, hts, hlocks, hK, hA, hZ, hzo⟩ := id C
  unfold cProcessor_isSo_b18 at hF
  refine lv_icmp_ne (tgt := 25) hx hb dX5_isSo_18 (by decide) (fun c_18 => ?_) (fun c_18 => ?_)
  · have hF := hF.trans (if_neg c_18)
    refine lv_iconst (v := (0 : Int32)) hx hb dX5_isSo_25 (by decide) ?_
    exact cx_zret C hI rfl hF rfl dX5_isSo_26
  · have hF := hF.trans (if_pos c_18)
    refine lv_iconst (v := (1 : Int32)) hx hb dX5_isSo_21 (by decide) ?_
    refine lv_goto (tgt := 26) hx hb dX5_isSo_22 (by decide) ?_
    exact cx_zret C hI rfl hF rfl dX5_isSo_26
def cProcessor_isSo (st : CS) (x1 : Int32) : Int32 := (if ((x1 &&& (1 : Int32)) = 0) then (cProcessor_isSo_b18 st (cProcessor_isEvenSo st (ushr x1 (1 : Int32))) (1 : Int32)) else (cProcessor_isSo_b18 st (cProcessor_isEvenSo st (ushr x1 (1 : Int32))) (0 : Int32)))
set_option maxHeartbeats 4000000 in
set_option maxRecDepth 100000 in
theorem k_cProcessor_isSo {p : Program} {l : Launch} {e : Env} {s : State} {m : MethodId} {args : Array Value} {below : List Frame} {meth : Method} {c : Code} {A : Nat → Prop} (g : Gm) (C : cX p s m args meth c A cX5_isSo (some .boolean) 2 RX5 wq_X5_isSo (gD g) vwCl (cty g) (cz g)) (st : CS) (x1 : Int32) (H : Heap) (locs : List Loc) (ls : Array Slot) (hI : cI (gD g) vwCl (cw g) A s st H locs) (hl : lv_has ls 2 [(0, .ref (gad g 19)), (1, .int x1)]) (X : Int32) (hF : X = cProcessor_isSo st x1) : W p l e rm_cProcessor_isSo s m args below meth c H locs 0 0 (MQ below (cQi (gD g) vwCl (cty g) (cw g) A st X) args s 0 0 A) (F0 m 0 ls []) := by
  obtain ⟨hx, hb, hr, hml, hown, hts, hlocks, hK, hA, hZ, hzo⟩ := id C
  unfold cProcessor_isSo at hF
  refine lv_aload_n hx hb dX5_isSo_0 rfl (lv_at hl 0 rfl) ?_
  refine lv_iload_n hx hb dX5_isSo_1 rfl (lv_at hl 1 rfl) ?_
  refine lv_iconst (v := (1 : Int32)) hx hb dX5_isSo_2 (by decide) ?_
  refine lv_iushr (v := (ushr x1 (1 : Int32))) hx hb dX5_isSo_3 rfl ?_
  refine cx_Vi (As := [.int (ushr x1 (1 : Int32))]) (rest := []) C (c_cProcessor_isEvenSo l g st (ushr x1 (1 : Int32))) (cwV 1 hts (gd_V _ mw374 mw375 mw376 mw46 mw377) rfl rfl rfl yd_yX5_isEvenSo ⟨Nat.le_of_ble_eq_true rfl, Nat.le_of_ble_eq_true rfl⟩) (va_recv hK hI.1 (ci := 5) (q0 := 19) rfl rfl) hI rfl hl.1 rfl (Nat.le_of_ble_eq_true rfl) dX5_isSo_4 (fun H locs hI => ?_)
  refine lv_iload_n hx hb dX5_isSo_7 rfl (lv_at hl 1 rfl) ?_
  refine lv_iconst (v := (1 : Int32)) hx hb dX5_isSo_8 (by decide) ?_
  refine lv_iand hx hb dX5_isSo_9 ?_
  refine lv_if_ne (tgt := 17) hx hb dX5_isSo_10 (by decide) (fun c_10 => ?_) (fun c_10 => ?_)
  · have hF := hF.trans (if_neg c_10)
    refine lv_iconst (v := (0 : Int32)) hx hb dX5_isSo_17 (by decide) ?_
    exact k_cProcessor_isSo_b18 g C st (cProcessor_isEvenSo st (ushr x1 (1 : Int32))) (0 : Int32) H locs ls hI (lv_sub hl [0] rfl) X hF
  · have hF := hF.trans (if_pos c_10)
    refine lv_iconst (v := (1 : Int32)) hx hb dX5_isSo_13 (by decide) ?_
    refine lv_goto (tgt := 18) hx hb dX5_isSo_14 (by decide) ?_
    exact k_cProcessor_isSo_b18 g C st (cProcessor_isEvenSo st (ushr x1 (1 : Int32))) (1 : Int32) H locs ls hI (lv_sub hl [0] rfl) X hF
set_option maxHeartbeats 4000000 in
set_option maxRecDepth 100000 in
theorem c_cProcessor_isSo (l : Launch) (g : Gm) (st : CS) (x1 : Int32) : Mi l yX5_isSo wq_X5_isSo rm_cProcessor_isSo (gD g) vwCl (cty g) (cw g) (cz g) [.ref (gad g 19), .int x1] st st (cProcessor_isSo st x1) := by
  intro sz
  refine Met.ofW (cc := cX5_isSo) (maxL := 2) (ret := (some .boolean)) (by decide) rfl ?_
  intro p e s m args below meth c s₁ B hml hv
  obtain ⟨rfl, hsz, hP, hK, hD0, hZ⟩ := hv
  subst hsz
  have hl := lv_entry ([.ref (gad g 19), .int x1]) (n := 2) (Nat.le_of_ble_eq_true rfl)
  rw [lg_entry_eq]
  generalize (lg_sl ([.ref (gad g 19), .int x1]) ++ List.replicate (2 - (lg_sl ([.ref (gad g 19), .int x1])).length) Slot.unset).toArray = ls at hl ⊢
  exact k_cProcessor_isSo g ⟨B.exec, B.bytes, B.returns, hml, findClass_of_methodNamed B.named, atoms_spec (ws := wq_X5_isSo) B.pre, B.notSynchronized, hK, fun q h => Or.inr h, hZ, cz_ok g⟩ st x1 _ _ ls ⟨hP, hD0.self, va_S.rf⟩ hl _ rfl
abbrev wq_X5_branch : List Cond := .code yX5_branch cX5_branch 1 (some .int) :: wAll
theorem yd_yX5_branch : yX5_branch.cls = RX5 ∧ yX5_branch.cls ≠ "java/lang/invoke/MethodHandle" ∧ yX5_branch.cls ≠ "java/lang/invoke/VarHandle" ∧ (parseMethodDescriptor yX5_branch.desc).map (fun d => d.parameters.length) = some 0 := by decide +kernel
abbrev rm_cProcessor_branch : Room := { frames := 3, cells := 0, slots := 0, locals := 66 }
def cProcessor_branch_b20 (st : CS) : CS × Int32 := ((cRegisters_goTo st (((gI st 31) + (8 : Int32)) + (((gI st 32) <<< ((8 : Int32) &&& 31)) >>> ((6 : Int32) &&& 31)))), (4 : Int32))
set_option maxHeartbeats 4000000 in
set_option maxRecDepth 100000 in
theorem k_cProcessor_branch_b20 {p : Program} {l : Launch} {e : Env} {s : State} {m : MethodId} {args : Array Value} {below : List Frame} {meth : Method} {c : Code} {A : Nat → Prop} (g : Gm) (C : cX p s m args meth c A cX5_branch (some .int) 1 RX5 wq_X5_branch (gD g) vwCl (cty g) (cz g)) (st : CS) (H : Heap) (locs : List Loc) (ls : Array Slot) (hI : cI (gD g) vwCl (cw g) A s st H locs) (hl : lv_has ls 1 [(0, .ref (gad g 19))]) (X : CS × Int32) (hF : X = cProcessor_branch_b20 st ) : W p l e rm_cProcessor_branch s m args below meth c H locs 0 0 (MQ below (cQi (gD g) vwCl (cty g) (cw g) A X.1 X.2) args s 0 0 A) (F0 m 20 ls []) := by
  obtain ⟨hx, hb, hr, hml, hown, hts, hlocks, hK, hA, hZ, hzo⟩ := id C
  unfold cProcessor_branch_b20 at hF
  refine lv_aload_n hx hb dX5_branch_20 rfl (lv_at hl 0 rfl) ?_
  refine va_get (D := gD g) (ci := 5) (C := RX5) (T := TX5) (N := 10) (v := .ref (gad g 2)) hx hb hts (fun w h => List.mem_cons_of_mem _ (isX50 w h)) hown hK hI.1 19 rfl rfl 0 (by decide) (hts _ (List.mem_cons_of_mem _ mw112)) (fun _ h9 => h9) rfl dX5_branch_21 ?_
  refine lv_aload_n hx hb dX5_branch_24 rfl (lv_at hl 0 rfl) ?_
  refine va_get (D := gD g) (ci := 5) (C := RX5) (T := TX5) (N := 10) (v := .int (gI st 31)) hx hb hts (fun w h => List.mem_cons_of_mem _ (isX50 w h)) hown hK hI.1 19 rfl rfl 5 (by decide) (hts _ (List.mem_cons_of_mem _ mw308)) (fun _ h9 => h9) rfl dX5_branch_25 ?_
  refine lv_bipush (v := (8 : Int32)) hx hb dX5_branch_28 (by decide) ?_
  refine lv_iadd hx hb dX5_branch_30 ?_
  refine lv_aload_n hx hb dX5_branch_31 rfl (lv_at hl 0 rfl) ?_
  refine va_get (D := gD g) (ci := 5) (C := RX5) (T := TX5) (N := 10) (v := .int (gI st 32)) hx hb hts (fun w h => List.mem_cons_of_mem _ (isX50 w h)) hown hK hI.1 19 rfl rfl 6 (by decide) (hts _ (List.mem_cons_of_mem _ mw311)) (fun _ h9 => h9) rfl dX5_branch_32 ?_
  refine lv_bipush (v := (8 : Int32)) hx hb dX5_branch_35 (by decide) ?_
  refine lv_ishl hx hb dX5_branch_37 ?_
  refine lv_bipush (v := (6 : Int32)) hx hb dX5_branch_38 (by decide) ?_
  refine lv_ishr hx hb dX5_branch_40 ?_
  refine lv_iadd hx hb dX5_branch_41 ?_
  refine cx_Vv (As := [.int (((gI st 31) + (8 : Int32)) + (((gI st 32) <<< ((8 : Int32) &&& 31)) >>> ((6 : Int32) &&& 31)))]) (rest := []) C (c_cRegisters_goTo l g st (((gI st 31) + (8 : Int32)) + (((gI st 32) <<< ((8 : Int32) &&& 31)) >>> ((6 : Int32) &&& 31)))) (cwV 1 hts (gd_V _ mw361 mw362 mw363 mw14 mw364) rfl rfl rfl yd_yX6_goTo ⟨Nat.le_of_ble_eq_true rfl, Nat.le_of_ble_eq_true rfl⟩) (va_recv hK hI.1 (ci := 6) (q0 := 2) rfl rfl) hI rfl hl.1 rfl (Nat.le_of_ble_eq_true rfl) dX5_branch_42 (fun H locs hI => ?_)
  refine lv_iconst (v := (4 : Int32)) hx hb dX5_branch_45 (by decide) ?_
  exact cx_iret C hI (congrArg Prod.fst hF) (congrArg Prod.snd hF) dX5_branch_46
def cProcessor_branch (st : CS) : CS × Int32 := (if ((cProcessor_is st (16777216 : Int32)) = 0) then (cProcessor_branch_b20 st ) else (cProcessor_branch_b20 (cProcessor_become st (14 : Int32) (cProcessor_withSigns st (4 : Int32))) ))
set_option maxHeartbeats 4000000 in
set_option maxRecDepth 100000 in
theorem k_cProcessor_branch {p : Program} {l : Launch} {e : Env} {s : State} {m : MethodId} {args : Array Value} {below : List Frame} {meth : Method} {c : Code} {A : Nat → Prop} (g : Gm) (C : cX p s m args meth c A cX5_branch (some .int) 1 RX5 wq_X5_branch (gD g) vwCl (cty g) (cz g)) (st : CS) (H : Heap) (locs : List Loc) (ls : Array Slot) (hI : cI (gD g) vwCl (cw g) A s st H locs) (hl : lv_has ls 1 [(0, .ref (gad g 19))]) (X : CS × Int32) (hF : X = cProcessor_branch st) : W p l e rm_cProcessor_branch s m args below meth c H locs 0 0 (MQ below (cQi (gD g) vwCl (cty g) (cw g) A X.1 X.2) args s 0 0 A) (F0 m 0 ls []) := by
  obtain ⟨hx, hb, hr, hml, hown, hts, hlocks, hK, hA, hZ, hzo⟩ := id C
  unfold cProcessor_branch at hF
  refine lv_aload_n hx hb dX5_branch_0 rfl (lv_at hl 0 rfl) ?_
  refine lv_ldc (v := (16777216 : Int32)) hx hb hown (hts _ (List.mem_cons_of_mem _ mw360)) dX5_branch_1 ?_
  refine cx_Vi (As := [.int (16777216 : Int32)]) (rest := []) C (c_cProcessor_is l g st (16777216 : Int32)) (cwV 1 hts (gd_V _ mw397 mw398 mw399 mw46 mw400) rfl rfl rfl yd_yX5_is ⟨Nat.le_of_ble_eq_true rfl, Nat.le_of_ble_eq_true rfl⟩) (va_recv hK hI.1 (ci := 5) (q0 := 19) rfl rfl) hI rfl hl.1 rfl (Nat.le_of_ble_eq_true rfl) dX5_branch_3 (fun H locs hI => ?_)
  refine lv_if_eq (tgt := 20) hx hb dX5_branch_6 (by decide) (fun c_6 => ?_) (fun c_6 => ?_)
  · have hF := hF.trans (if_pos c_6)
    exact k_cProcessor_branch_b20 g C st  H locs ls hI (lv_sub hl [0] rfl) X hF
  · have hF := hF.trans (if_neg c_6)
    refine lv_aload_n hx hb dX5_branch_9 rfl (lv_at hl 0 rfl) ?_
    refine lv_bipush (v := (14 : Int32)) hx hb dX5_branch_10 (by decide) ?_
    refine lv_aload_n hx hb dX5_branch_12 rfl (lv_at hl 0 rfl) ?_
    refine lv_iconst (v := (4 : Int32)) hx hb dX5_branch_13 (by decide) ?_
    refine cx_Vi (As := [.int (4 : Int32)]) (rest := [.int (14 : Int32), .ref (gad g 19)]) C (c_cProcessor_withSigns l g st (4 : Int32)) (cwV 1 hts (gd_V _ mw406 mw407 mw408 mw46 mw409) rfl rfl rfl yd_yX5_withSigns ⟨Nat.le_of_ble_eq_true rfl, Nat.le_of_ble_eq_true rfl⟩) (va_recv hK hI.1 (ci := 5) (q0 := 19) rfl rfl) hI rfl hl.1 rfl (Nat.le_of_ble_eq_true rfl) dX5_branch_14 (fun H locs hI => ?_)
    refine cx_Vv (As := [.int (14 : Int32), .int (cProcessor_withSigns st (4 : Int32))]) (rest := []) C (c_cProcessor_become l g st (14 : Int32) (cProcessor_withSigns st (4 : Int32))) (cwV 2 hts (gd_V _ mw477 mw478 mw479 mw46 mw480) rfl rfl rfl yd_yX5_become ⟨Nat.le_of_ble_eq_true rfl, Nat.le_of_ble_eq_true rfl⟩) (va_recv hK hI.1 (ci := 5) (q0 := 19) rfl rfl) hI rfl hl.1 rfl (Nat.le_of_ble_eq_true rfl) dX5_branch_17 (fun H locs hI => ?_)
    exact k_cProcessor_branch_b20 g C (cProcessor_become st (14 : Int32) (cProcessor_withSigns st (4 : Int32)))  H locs ls hI (lv_sub hl [0] rfl) X hF
set_option maxHeartbeats 4000000 in
set_option maxRecDepth 100000 in
theorem c_cProcessor_branch (l : Launch) (g : Gm) (st : CS) : Mi l yX5_branch wq_X5_branch rm_cProcessor_branch (gD g) vwCl (cty g) (cw g) (cz g) [.ref (gad g 19)] st (cProcessor_branch st).1 (cProcessor_branch st).2 := by
  intro sz
  refine Met.ofW (cc := cX5_branch) (maxL := 1) (ret := (some .int)) (by decide) rfl ?_
  intro p e s m args below meth c s₁ B hml hv
  obtain ⟨rfl, hsz, hP, hK, hD0, hZ⟩ := hv
  subst hsz
  have hl := lv_entry ([.ref (gad g 19)]) (n := 1) (Nat.le_of_ble_eq_true rfl)
  rw [lg_entry_eq]
  generalize (lg_sl ([.ref (gad g 19)]) ++ List.replicate (1 - (lg_sl ([.ref (gad g 19)])).length) Slot.unset).toArray = ls at hl ⊢
  exact k_cProcessor_branch g ⟨B.exec, B.bytes, B.returns, hml, findClass_of_methodNamed B.named, atoms_spec (ws := wq_X5_branch) B.pre, B.notSynchronized, hK, fun q h => Or.inr h, hZ, cz_ok g⟩ st  _ _ ls ⟨hP, hD0.self, va_S.rf⟩ hl _ rfl
abbrev wq_X5_pairsOfBits : List Cond := .code yX5_pairsOfBits cX5_pairsOfBits 3 (some .int) :: wAll
theorem yd_yX5_pairsOfBits : yX5_pairsOfBits.cls ≠ "java/lang/invoke/MethodHandle" ∧ yX5_pairsOfBits.cls ≠ "java/lang/invoke/VarHandle" ∧ (parseMethodDescriptor yX5_pairsOfBits.desc).map (fun d => d.parameters.length) = some 1 := by decide +kernel
abbrev rm_cProcessor_pairsOfBits : Room := { frames := 0, cells := 0, slots := 0, locals := 0 }
def cProcessor_pairsOfBits_b4 : Nat → Int32 → Int32 → Option (Int32)
  | 0, _, _ => none
  | n + 1, x1, x2 => (if (x1 = 0) then (some x2) else (if ((16 : Int32) ≤ x2) then (some x2) else (cProcessor_pairsOfBits_b4 n (ushr x1 (2 : Int32)) (x2 + (1 : Int32)))))
set_option maxHeartbeats 4000000 in
set_option maxRecDepth 100000 in
theorem k_cProcessor_pairsOfBits_b4 {p : Program} {l : Launch} {e : Env} {s : State} {m : MethodId} {args : Array Value} {below : List Frame} {meth : Method} {c : Code} {A : Nat → Prop} (g : Gm) (C : cX p s m args meth c A cX5_pairsOfBits (some .int) 3 RX5 wq_X5_pairsOfBits (gD g) vwCl (cty g) (cz g)) : ∀ (n : Nat) (st : CS) (x1 : Int32) (x2 : Int32) (H : Heap) (locs : List Loc) (ls : Array Slot), cI (gD g) vwCl (cw g) A s st H locs → lv_has ls 3 [(1, .int x1), (2, .int x2)] → ∀ (X : Int32), some X = cProcessor_pairsOfBits_b4 n x1 x2 → W p l e rm_cProcessor_pairsOfBits s m args below meth c H locs 0 0 (MQ below (cQi (gD g) vwCl (cty g) (cw g) A st X) args s 0 0 A) (F0 m 4 ls []) := by
  obtain ⟨hx, hb, hr, hml, hown, hts, hlocks, hK, hA, hZ, hzo⟩ := id C
  intro n
  induction n with
  | zero => intro st x1 x2 H locs ls hI hl X hF; exact absurd hF (by simp [cProcessor_pairsOfBits_b4])
  | succ n ih =>
    intro st x1 x2 H locs ls hI hl X hF
    rw [cProcessor_pairsOfBits_b4] at hF
    refine lv_iload_n hx hb dX5_pairsOfBits_4 rfl (lv_at hl 0 rfl) ?_
    refine lv_if_eq (tgt := 24) hx hb dX5_pairsOfBits_5 (by decide) (fun c_5 => ?_) (fun c_5 => ?_)
    · have hF := hF.trans (if_pos c_5)
      refine lv_iload_n hx hb dX5_pairsOfBits_24 rfl (lv_at hl 1 rfl) ?_
      have hF := Option.some.inj hF
      exact cx_iret C hI rfl hF dX5_pairsOfBits_25
    · have hF := hF.trans (if_neg c_5)
      refine lv_iload_n hx hb dX5_pairsOfBits_8 rfl (lv_at hl 1 rfl) ?_
      refine lv_bipush (v := (16 : Int32)) hx hb dX5_pairsOfBits_9 (by decide) ?_
      refine lv_icmp_ge (tgt := 24) hx hb dX5_pairsOfBits_11 (by decide) (fun c_11 => ?_) (fun c_11 => ?_)
      · have hF := hF.trans (if_pos c_11)
        refine lv_iload_n hx hb dX5_pairsOfBits_24 rfl (lv_at hl 1 rfl) ?_
        have hF := Option.some.inj hF
        exact cx_iret C hI rfl hF dX5_pairsOfBits_25
      · have hF := hF.trans (if_neg c_11)
        refine lv_iload_n hx hb dX5_pairsOfBits_14 rfl (lv_at hl 0 rfl) ?_
        refine lv_iconst (v := (2 : Int32)) hx hb dX5_pairsOfBits_15 (by decide) ?_
        refine lv_iushr (v := (ushr x1 (2 : Int32))) hx hb dX5_pairsOfBits_16 rfl ?_
        refine lv_istore_n (lv' := [(1, .int (ushr x1 (2 : Int32))), (2, .int x2)]) hx hb dX5_pairsOfBits_17 rfl hl (by decide) rfl (fun ls hl => ?_)
        refine lv_iinc (v := (x2 + (1 : Int32))) (lv' := [(2, .int (x2 + (1 : Int32))), (1, .int (ushr x1 (2 : Int32)))]) hx hb dX5_pairsOfBits_18 hl (k := 1) rfl rfl (by decide) rfl (fun ls hl => ?_)
        refine lv_goto (tgt := 4) hx hb dX5_pairsOfBits_21 (by decide) ?_
        exact ih st (ushr x1 (2 : Int32)) (x2 + (1 : Int32)) H locs ls hI (lv_sub hl [1, 0] rfl) X hF
def cProcessor_pairsOfBits_b4t  (x1 : Int32) (x2 : Int32) : Int32 := (cProcessor_pairsOfBits_b4 (17) x1 x2).getD 0
theorem e_cProcessor_pairsOfBits : ∀ (n j : Nat) (x1 : Int32), j ≤ 16 → 16 - j < n → ∃ r, cProcessor_pairsOfBits_b4 n x1 (nI j) = some r := by
  intro n
  induction n with
  | zero => intro j x1 h1 h2; omega
  | succ n ih =>
    intro j x1 h1 h2
    rw [cProcessor_pairsOfBits_b4]
    rcases Nat.lt_or_ge j 16 with q | q
    · rw [if_neg (show ¬ (16 : Int32) ≤ nI j from nI_ge q (by decide)), show nI j + (1 : Int32) = nI (j + 1) from nI_1 j]
      split
      · exact ⟨_, rfl⟩
      · exact ih (j + 1) _ q (by omega)
    · have e : j = 16 := by omega
      subst e
      rw [if_pos (show (16 : Int32) ≤ nI 16 by decide)]
      split <;> exact ⟨_, rfl⟩
theorem t_cProcessor_pairsOfBits_b4 (x1 x2 : Int32) (hz : x2 = 0) : some (cProcessor_pairsOfBits_b4t x1 x2) = cProcessor_pairsOfBits_b4 (17) x1 x2 := by
  subst hz
  exact some_getD (e_cProcessor_pairsOfBits _ 0 x1 (Nat.zero_le _) (by decide))
set_option maxHeartbeats 4000000 in
set_option maxRecDepth 100000 in
theorem k_cProcessor_pairsOfBits_b4t {p : Program} {l : Launch} {e : Env} {s : State} {m : MethodId} {args : Array Value} {below : List Frame} {meth : Method} {c : Code} {A : Nat → Prop} (g : Gm) (C : cX p s m args meth c A cX5_pairsOfBits (some .int) 3 RX5 wq_X5_pairsOfBits (gD g) vwCl (cty g) (cz g)) (st : CS) (x1 : Int32) (x2 : Int32) (H : Heap) (locs : List Loc) (ls : Array Slot) (hI : cI (gD g) vwCl (cw g) A s st H locs) (hl : lv_has ls 3 [(1, .int x1), (2, .int x2)]) (hz : x2 = 0) (X : Int32) (hF : X = cProcessor_pairsOfBits_b4t x1 x2) : W p l e rm_cProcessor_pairsOfBits s m args below meth c H locs 0 0 (MQ below (cQi (gD g) vwCl (cty g) (cw g) A st X) args s 0 0 A) (F0 m 4 ls []) := by
  refine k_cProcessor_pairsOfBits_b4 g C (17) st x1 x2 H locs ls hI hl X ?_
  rw [hF]
  exact t_cProcessor_pairsOfBits_b4 x1 x2 hz
def cProcessor_pairsOfBits (x0 : Int32) : Int32 := (cProcessor_pairsOfBits_b4t x0 (0 : Int32))
set_option maxHeartbeats 4000000 in
set_option maxRecDepth 100000 in
theorem k_cProcessor_pairsOfBits {p : Program} {l : Launch} {e : Env} {s : State} {m : MethodId} {args : Array Value} {below : List Frame} {meth : Method} {c : Code} {A : Nat → Prop} (g : Gm) (C : cX p s m args meth c A cX5_pairsOfBits (some .int) 3 RX5 wq_X5_pairsOfBits (gD g) vwCl (cty g) (cz g)) (st : CS) (x0 : Int32) (H : Heap) (locs : List Loc) (ls : Array Slot) (hI : cI (gD g) vwCl (cw g) A s st H locs) (hl : lv_has ls 3 [(0, .int x0)]) (X : Int32) (hF : X = cProcessor_pairsOfBits x0) : W p l e rm_cProcessor_pairsOfBits s m args below meth c H locs 0 0 (MQ below (cQi (gD g) vwCl (cty g) (cw g) A st X) args s 0 0 A) (F0 m 0 ls []) := by
  obtain ⟨hx, hb, hr, hml, hown, hts, hlocks, hK, hA, hZ, hzo⟩ := id C
  unfold cProcessor_pairsOfBits at hF
  refine lv_iload_n hx hb dX5_pairsOfBits_0 rfl (lv_at hl 0 rfl) ?_
  refine lv_istore_n (lv' := [(1, .int x0), (0, .int x0)]) hx hb dX5_pairsOfBits_1 rfl hl (by decide) rfl (fun ls hl => ?_)
  refine lv_iconst (v := (0 : Int32)) hx hb dX5_pairsOfBits_2 (by decide) ?_
  refine lv_istore_n (lv' := [(2, .int (0 : Int32)), (1, .int x0), (0, .int x0)]) hx hb dX5_pairsOfBits_3 rfl hl (by decide) rfl (fun ls hl => ?_)
  exact k_cProcessor_pairsOfBits_b4t g C st x0 (0 : Int32) H locs ls hI (lv_sub hl [1, 0] rfl) rfl X hF
set_option maxHeartbeats 4000000 in
set_option maxRecDepth 100000 in
theorem c_cProcessor_pairsOfBits (l : Launch) (g : Gm) (st : CS) (x0 : Int32) : Mi l yX5_pairsOfBits wq_X5_pairsOfBits rm_cProcessor_pairsOfBits (gD g) vwCl (cty g) (cw g) (cz g) [.int x0] st st (cProcessor_pairsOfBits x0) := by
  intro sz
  refine Met.ofW (cc := cX5_pairsOfBits) (maxL := 3) (ret := (some .int)) (by decide) rfl ?_
  intro p e s m args below meth c s₁ B hml hv
  obtain ⟨rfl, hsz, hP, hK, hD0, hZ⟩ := hv
  subst hsz
  have hl := lv_entry ([.int x0]) (n := 3) (Nat.le_of_ble_eq_true rfl)
  rw [lg_entry_eq]
  generalize (lg_sl ([.int x0]) ++ List.replicate (3 - (lg_sl ([.int x0])).length) Slot.unset).toArray = ls at hl ⊢
  exact k_cProcessor_pairsOfBits g ⟨B.exec, B.bytes, B.returns, hml, findClass_of_methodNamed B.named, atoms_spec (ws := wq_X5_pairsOfBits) B.pre, B.notSynchronized, hK, fun q h => Or.inr h, hZ, cz_ok g⟩ st x0 _ _ ls ⟨hP, hD0.self, va_S.rf⟩ hl _ rfl
abbrev wq_X5_multiply : List Cond := .code yX5_multiply cX5_multiply 4 (some .int) :: wAll
theorem yd_yX5_multiply : yX5_multiply.cls = RX5 ∧ yX5_multiply.cls ≠ "java/lang/invoke/MethodHandle" ∧ yX5_multiply.cls ≠ "java/lang/invoke/VarHandle" ∧ (parseMethodDescriptor yX5_multiply.desc).map (fun d => d.parameters.length) = some 0 := by decide +kernel
abbrev rm_cProcessor_multiply : Room := { frames := 3, cells := 0, slots := 0, locals := 66 }
def cProcessor_multiply_b87 (st : CS) (x2 : Int32) : CS × Int32 := (st, ((1 : Int32) + (if (1 : Int32) < (cProcessor_pairsOfBits x2) then (cProcessor_pairsOfBits x2) else (1 : Int32))))
set_option maxHeartbeats 4000000 in
set_option maxRecDepth 100000 in
theorem k_cProcessor_multiply_b87 {p : Program} {l : Launch} {e : Env} {s : State} {m : MethodId} {args : Array Value} {below : List Frame} {meth : Method} {c : Code} {A : Nat → Prop} (g : Gm) (C : cX p s m args meth c A cX5_multiply (some .int) 4 RX5 wq_X5_multiply (gD g) vwCl (cty g) (cz g)) (st : CS) (x2 : Int32) (H : Heap) (locs : List Loc) (ls : Array Slot) (hI : cI (gD g) vwCl (cw g) A s st H locs) (hl : lv_has ls 4 [(0, .ref (gad g 19)), (2, .int x2)]) (X : CS × Int32) (hF : X = cProcessor_multiply_b87 st x2) : W p l e rm_cProcessor_multiply s m args below meth c H locs 0 0 (MQ below (cQi (gD g) vwCl (cty g) (cw g) A X.1 X.2) args s 0 0 A) (F0 m 87 ls []) := by
  obtain ⟨hx, hb, hr, hml, hown, hts, hlocks, hK, hA, hZ, hzo⟩ := id C
  unfold cProcessor_multiply_b87 at hF
  refine lv_iconst (v := (1 : Int32)) hx hb dX5_multiply_87 (by decide) ?_
  refine lv_iconst (v := (1 : Int32)) hx hb dX5_multiply_88 (by decide) ?_
  refine lv_iload_n hx hb dX5_multiply_89 rfl (lv_at hl 1 rfl) ?_
  refine cx_Si (As := [.int x2]) (rest := [.int (1 : Int32), .int (1 : Int32)]) C (c_cProcessor_pairsOfBits l g st x2) (va_cwS 1 hts (gd_S _ mw517 mw518 mw46 mw519) rfl rfl rfl yd_yX5_pairsOfBits ⟨Nat.le_of_ble_eq_true rfl, Nat.le_of_ble_eq_true rfl⟩) hI rfl hl.1 rfl (Nat.le_of_ble_eq_true rfl) dX5_multiply_90 (fun H locs hI => ?_)
  refine va_mmax hx hb (hml.trans hl.1.symm) hown (hts _ (List.mem_cons_of_mem _ mw514)) (hts _ (List.mem_cons_of_mem _ mw515)) (hts _ (List.mem_cons_of_mem _ mw458)) (hts _ (List.mem_cons_of_mem _ mw516)) (Nat.le_of_ble_eq_true rfl) (Nat.le_of_ble_eq_true rfl) (Nat.zero_le _) (Nat.zero_le _) dX5_multiply_93 ?_
  refine lv_iadd hx hb dX5_multiply_96 ?_
  exact cx_iret C hI (congrArg Prod.fst hF) (congrArg Prod.snd hF) dX5_multiply_97
def cProcessor_multiply_b70 (st : CS) (x2 : Int32) (x3 : Int32) : CS × Int32 := (if ((cProcessor_is st (1048576 : Int32)) = 0) then (cProcessor_multiply_b87 st x2) else (cProcessor_multiply_b87 (cRegisters_setResultSigns st x3) x2))
set_option maxHeartbeats 4000000 in
set_option maxRecDepth 100000 in
theorem k_cProcessor_multiply_b70 {p : Program} {l : Launch} {e : Env} {s : State} {m : MethodId} {args : Array Value} {below : List Frame} {meth : Method} {c : Code} {A : Nat → Prop} (g : Gm) (C : cX p s m args meth c A cX5_multiply (some .int) 4 RX5 wq_X5_multiply (gD g) vwCl (cty g) (cz g)) (st : CS) (x2 : Int32) (x3 : Int32) (H : Heap) (locs : List Loc) (ls : Array Slot) (hI : cI (gD g) vwCl (cw g) A s st H locs) (hl : lv_has ls 4 [(0, .ref (gad g 19)), (2, .int x2), (3, .int x3)]) (X : CS × Int32) (hF : X = cProcessor_multiply_b70 st x2 x3) : W p l e rm_cProcessor_multiply s m args below meth c H locs 0 0 (MQ below (cQi (gD g) vwCl (cty g) (cw g) A X.1 X.2) args s 0 0 A) (F0 m 70 ls []) := by
  obtain ⟨hx, hb, hr, hml, hown, hts, hlocks, hK, hA, hZ, hzo⟩ := id C
  unfold cProcessor_multiply_b70 at hF
  refine lv_aload_n hx hb dX5_multiply_70 rfl (lv_at hl 0 rfl) ?_
  refine lv_ldc (v := (1048576 : Int32)) hx hb hown (hts _ (List.mem_cons_of_mem _ mw390)) dX5_multiply_71 ?_
  refine cx_Vi (As := [.int (1048576 : Int32)]) (rest := []) C (c_cProcessor_is l g st (1048576 : Int32)) (cwV 1 hts (gd_V _ mw397 mw398 mw399 mw46 mw400) rfl rfl rfl yd_yX5_is ⟨Nat.le_of_ble_eq_true rfl, Nat.le_of_ble_eq_true rfl⟩) (va_recv hK hI.1 (ci := 5) (q0 := 19) rfl rfl) hI rfl hl.1 rfl (Nat.le_of_ble_eq_true rfl) dX5_multiply_73 (fun H locs hI => ?_)
  refine lv_if_eq (tgt := 87) hx hb dX5_multiply_76 (by decide) (fun c_76 => ?_) (fun c_76 => ?_)
  · have hF := hF.trans (if_pos c_76)
    exact k_cProcessor_multiply_b87 g C st x2 H locs ls hI (lv_sub hl [0, 1] rfl) X hF
  · have hF := hF.trans (if_neg c_76)
    refine lv_aload_n hx hb dX5_multiply_79 rfl (lv_at hl 0 rfl) ?_
    refine va_get (D := gD g) (ci := 5) (C := RX5) (T := TX5) (N := 10) (v := .ref (gad g 2)) hx hb hts (fun w h => List.mem_cons_of_mem _ (isX50 w h)) hown hK hI.1 19 rfl rfl 0 (by decide) (hts _ (List.mem_cons_of_mem _ mw112)) (fun _ h9 => h9) rfl dX5_multiply_80 ?_
    refine lv_iload_n hx hb dX5_multiply_83 rfl (lv_at hl 2 rfl) ?_
    refine cx_Vv (As := [.int x3]) (rest := []) C (c_cRegisters_setResultSigns l g st x3) (cwV 1 hts (gd_V _ mw495 mw496 mw497 mw14 mw498) rfl rfl rfl yd_yX6_setResultSigns ⟨Nat.le_of_ble_eq_true rfl, Nat.le_of_ble_eq_true rfl⟩) (va_recv hK hI.1 (ci := 6) (q0 := 2) rfl rfl) hI rfl hl.1 rfl (Nat.le_of_ble_eq_true rfl) dX5_multiply_84 (fun H locs hI => ?_)
    exact k_cProcessor_multiply_b87 g C (cRegisters_setResultSigns st x3) x2 H locs ls hI (lv_sub hl [0, 1] rfl) X hF
def cProcessor_multiply_b58 (st : CS) (x1 : Int32) (x2 : Int32) (x3 : Int32) : CS × Int32 := (if (x1 = (15 : Int32)) then (cProcessor_multiply_b70 st x2 x3) else (cProcessor_multiply_b70 (cProcessor_become st x1 x3) x2 x3))
set_option maxHeartbeats 4000000 in
set_option maxRecDepth 100000 in
theorem k_cProcessor_multiply_b58 {p : Program} {l : Launch} {e : Env} {s : State} {m : MethodId} {args : Array Value} {below : List Frame} {meth : Method} {c : Code} {A : Nat → Prop} (g : Gm) (C : cX p s m args meth c A cX5_multiply (some .int) 4 RX5 wq_X5_multiply (gD g) vwCl (cty g) (cz g)) (st : CS) (x1 : Int32) (x2 : Int32) (x3 : Int32) (H : Heap) (locs : List Loc) (ls : Array Slot) (hI : cI (gD g) vwCl (cw g) A s st H locs) (hl : lv_has ls 4 [(0, .ref (gad g 19)), (1, .int x1), (2, .int x2), (3, .int x3)]) (X : CS × Int32) (hF : X = cProcessor_multiply_b58 st x1 x2 x3) : W p l e rm_cProcessor_multiply s m args below meth c H locs 0 0 (MQ below (cQi (gD g) vwCl (cty g) (cw g) A X.1 X.2) args s 0 0 A) (F0 m 58 ls []) := by
  obtain ⟨hx, hb, hr, hml, hown, hts, hlocks, hK, hA, hZ, hzo⟩ := id C
  unfold cProcessor_multiply_b58 at hF
  refine lv_iload_n hx hb dX5_multiply_58 rfl (lv_at hl 1 rfl) ?_
  refine lv_bipush (v := (15 : Int32)) hx hb dX5_multiply_59 (by decide) ?_
  refine lv_icmp_eq (tgt := 70) hx hb dX5_multiply_61 (by decide) (fun c_61 => ?_) (fun c_61 => ?_)
  · have hF := hF.trans (if_pos c_61)
    exact k_cProcessor_multiply_b70 g C st x2 x3 H locs ls hI (lv_sub hl [0, 2, 3] rfl) X hF
  · have hF := hF.trans (if_neg c_61)
    refine lv_aload_n hx hb dX5_multiply_64 rfl (lv_at hl 0 rfl) ?_
    refine lv_iload_n hx hb dX5_multiply_65 rfl (lv_at hl 1 rfl) ?_
    refine lv_iload_n hx hb dX5_multiply_66 rfl (lv_at hl 3 rfl) ?_
    refine cx_Vv (As := [.int x1, .int x3]) (rest := []) C (c_cProcessor_become l g st x1 x3) (cwV 2 hts (gd_V _ mw477 mw478 mw479 mw46 mw480) rfl rfl rfl yd_yX5_become ⟨Nat.le_of_ble_eq_true rfl, Nat.le_of_ble_eq_true rfl⟩) (va_recv hK hI.1 (ci := 5) (q0 := 19) rfl rfl) hI rfl hl.1 rfl (Nat.le_of_ble_eq_true rfl) dX5_multiply_67 (fun H locs hI => ?_)
    exact k_cProcessor_multiply_b70 g C (cProcessor_become st x1 x3) x2 x3 H locs ls hI (lv_sub hl [0, 2, 3] rfl) X hF
def cProcessor_multiply (st : CS) : CS × Int32 := (if ((cProcessor_is st (2097152 : Int32)) = 0) then (cProcessor_multiply_b58 st (cProcessor_part st (16 : Int32)) (cProcessor_operand st (cProcessor_part st (8 : Int32)) (8 : Int32)) ((cProcessor_operand st (cProcessor_part st (0 : Int32)) (8 : Int32)) * (cProcessor_operand st (cProcessor_part st (8 : Int32)) (8 : Int32)))) else (cProcessor_multiply_b58 st (cProcessor_part st (16 : Int32)) (cProcessor_operand st (cProcessor_part st (8 : Int32)) (8 : Int32)) (((cProcessor_operand st (cProcessor_part st (0 : Int32)) (8 : Int32)) * (cProcessor_operand st (cProcessor_part st (8 : Int32)) (8 : Int32))) + (cProcessor_operand st (cProcessor_part st (12 : Int32)) (8 : Int32)))))
set_option maxHeartbeats 4000000 in
set_option maxRecDepth 100000 in
theorem k_cProcessor_multiply {p : Program} {l : Launch} {e : Env} {s : State} {m : MethodId} {args : Array Value} {below : List Frame} {meth : Method} {c : Code} {A : Nat → Prop} (g : Gm) (C : cX p s m args meth c A cX5_multiply (some .int) 4 RX5 wq_X5_multiply (gD g) vwCl (cty g) (cz g)) (st : CS) (H : Heap) (locs : List Loc) (ls : Array Slot) (hI : cI (gD g) vwCl (cw g) A s st H locs) (hl : lv_has ls 4 [(0, .ref (gad g 19))]) (X : CS × Int32) (hF : X = cProcessor_multiply st) : W p l e rm_cProcessor_multiply s m args below meth c H locs 0 0 (MQ below (cQi (gD g) vwCl (cty g) (cw g) A X.1 X.2) args s 0 0 A) (F0 m 0 ls []) := by
  obtain ⟨hx, hb, hr, hml, hown, hts, hlocks, hK, hA, hZ, hzo⟩ := id C
  unfold cProcessor_multiply at hF
  refine lv_aload_n hx hb dX5_multiply_0 rfl (lv_at hl 0 rfl) ?_
  refine lv_bipush (v := (16 : Int32)) hx hb dX5_multiply_1 (by decide) ?_
  refine cx_Vi (As := [.int (16 : Int32)]) (rest := []) C (c_cProcessor_part l g st (16 : Int32)) (cwV 1 hts (gd_V _ mw393 mw394 mw395 mw46 mw396) rfl rfl rfl yd_yX5_part ⟨Nat.le_of_ble_eq_true rfl, Nat.le_of_ble_eq_true rfl⟩) (va_recv hK hI.1 (ci := 5) (q0 := 19) rfl rfl) hI rfl hl.1 rfl (Nat.le_of_ble_eq_true rfl) dX5_multiply_3 (fun H locs hI => ?_)
  refine lv_istore_n (lv' := [(1, .int (cProcessor_part st (16 : Int32))), (0, .ref (gad g 19))]) hx hb dX5_multiply_6 rfl hl (by decide) rfl (fun ls hl => ?_)
  refine lv_aload_n hx hb dX5_multiply_7 rfl (lv_at hl 1 rfl) ?_
  refine lv_aload_n hx hb dX5_multiply_8 rfl (lv_at hl 1 rfl) ?_
  refine lv_bipush (v := (8 : Int32)) hx hb dX5_multiply_9 (by decide) ?_
  refine cx_Vi (As := [.int (8 : Int32)]) (rest := [.ref (gad g 19)]) C (c_cProcessor_part l g st (8 : Int32)) (cwV 1 hts (gd_V _ mw393 mw394 mw395 mw46 mw396) rfl rfl rfl yd_yX5_part ⟨Nat.le_of_ble_eq_true rfl, Nat.le_of_ble_eq_true rfl⟩) (va_recv hK hI.1 (ci := 5) (q0 := 19) rfl rfl) hI rfl hl.1 rfl (Nat.le_of_ble_eq_true rfl) dX5_multiply_11 (fun H locs hI => ?_)
  refine lv_bipush (v := (8 : Int32)) hx hb dX5_multiply_14 (by decide) ?_
  refine cx_Vi (As := [.int (cProcessor_part st (8 : Int32)), .int (8 : Int32)]) (rest := []) C (c_cProcessor_operand l g st (cProcessor_part st (8 : Int32)) (8 : Int32)) (cwV 2 hts (gd_V _ mw444 mw445 mw446 mw46 mw447) rfl rfl rfl yd_yX5_operand ⟨Nat.le_of_ble_eq_true rfl, Nat.le_of_ble_eq_true rfl⟩) (va_recv hK hI.1 (ci := 5) (q0 := 19) rfl rfl) hI rfl hl.1 rfl (Nat.le_of_ble_eq_true rfl) dX5_multiply_16 (fun H locs hI => ?_)
  refine lv_istore_n (lv' := [(2, .int (cProcessor_operand st (cProcessor_part st (8 : Int32)) (8 : Int32))), (1, .int (cProcessor_part st (16 : Int32))), (0, .ref (gad g 19))]) hx hb dX5_multiply_19 rfl hl (by decide) rfl (fun ls hl => ?_)
  refine lv_aload_n hx hb dX5_multiply_20 rfl (lv_at hl 2 rfl) ?_
  refine lv_aload_n hx hb dX5_multiply_21 rfl (lv_at hl 2 rfl) ?_
  refine lv_iconst (v := (0 : Int32)) hx hb dX5_multiply_22 (by decide) ?_
  refine cx_Vi (As := [.int (0 : Int32)]) (rest := [.ref (gad g 19)]) C (c_cProcessor_part l g st (0 : Int32)) (cwV 1 hts (gd_V _ mw393 mw394 mw395 mw46 mw396) rfl rfl rfl yd_yX5_part ⟨Nat.le_of_ble_eq_true rfl, Nat.le_of_ble_eq_true rfl⟩) (va_recv hK hI.1 (ci := 5) (q0 := 19) rfl rfl) hI rfl hl.1 rfl (Nat.le_of_ble_eq_true rfl) dX5_multiply_23 (fun H locs hI => ?_)
  refine lv_bipush (v := (8 : Int32)) hx hb dX5_multiply_26 (by decide) ?_
  refine cx_Vi (As := [.int (cProcessor_part st (0 : Int32)), .int (8 : Int32)]) (rest := []) C (c_cProcessor_operand l g st (cProcessor_part st (0 : Int32)) (8 : Int32)) (cwV 2 hts (gd_V _ mw444 mw445 mw446 mw46 mw447) rfl rfl rfl yd_yX5_operand ⟨Nat.le_of_ble_eq_true rfl, Nat.le_of_ble_eq_true rfl⟩) (va_recv hK hI.1 (ci := 5) (q0 := 19) rfl rfl) hI rfl hl.1 rfl (Nat.le_of_ble_eq_true rfl) dX5_multiply_28 (fun H locs hI => ?_)
  refine lv_iload_n hx hb dX5_multiply_31 rfl (lv_at hl 0 rfl) ?_
  refine lv_imul hx hb dX5_multiply_32 ?_
  refine lv_istore_n (lv' := [(3, .int ((cProcessor_operand st (cProcessor_part st (0 : Int32)) (8 : Int32)) * (cProcessor_operand st (cProcessor_part st (8 : Int32)) (8 : Int32)))), (2, .int (cProcessor_operand st (cProcessor_part st (8 : Int32)) (8 : Int32))), (1, .int (cProcessor_part st (16 : Int32))), (0, .ref (gad g 19))]) hx hb dX5_multiply_33 rfl hl (by decide) rfl (fun ls hl => ?_)
  refine lv_aload_n hx hb dX5_multiply_34 rfl (lv_at hl 3 rfl) ?_
  refine lv_ldc (v := (2097152 : Int32)) hx hb hown (hts _ (List.mem_cons_of_mem _ mw513)) dX5_multiply_35 ?_
  refine cx_Vi (As := [.int (2097152 : Int32)]) (rest := []) C (c_cProcessor_is l g st (2097152 : Int32)) (cwV 1 hts (gd_V _ mw397 mw398 mw399 mw46 mw400) rfl rfl rfl yd_yX5_is ⟨Nat.le_of_ble_eq_true rfl, Nat.le_of_ble_eq_true rfl⟩) (va_recv hK hI.1 (ci := 5) (q0 := 19) rfl rfl) hI rfl hl.1 rfl (Nat.le_of_ble_eq_true rfl) dX5_multiply_37 (fun H locs hI => ?_)
  refine lv_if_eq (tgt := 58) hx hb dX5_multiply_40 (by decide) (fun c_40 => ?_) (fun c_40 => ?_)
  · have hF := hF.trans (if_pos c_40)
    exact k_cProcessor_multiply_b58 g C st (cProcessor_part st (16 : Int32)) (cProcessor_operand st (cProcessor_part st (8 : Int32)) (8 : Int32)) ((cProcessor_operand st (cProcessor_part st (0 : Int32)) (8 : Int32)) * (cProcessor_operand st (cProcessor_part st (8 : Int32)) (8 : Int32))) H locs ls hI (lv_sub hl [3, 2, 1, 0] rfl) X hF
  · have hF := hF.trans (if_neg c_40)
    refine lv_iload_n hx hb dX5_multiply_43 rfl (lv_at hl 0 rfl) ?_
    refine lv_aload_n hx hb dX5_multiply_44 rfl (lv_at hl 3 rfl) ?_
    refine lv_aload_n hx hb dX5_multiply_45 rfl (lv_at hl 3 rfl) ?_
    refine lv_bipush (v := (12 : Int32)) hx hb dX5_multiply_46 (by decide) ?_
    refine cx_Vi (As := [.int (12 : Int32)]) (rest := [.ref (gad g 19), .int ((cProcessor_operand st (cProcessor_part st (0 : Int32)) (8 : Int32)) * (cProcessor_operand st (cProcessor_part st (8 : Int32)) (8 : Int32)))]) C (c_cProcessor_part l g st (12 : Int32)) (cwV 1 hts (gd_V _ mw393 mw394 mw395 mw46 mw396) rfl rfl rfl yd_yX5_part ⟨Nat.le_of_ble_eq_true rfl, Nat.le_of_ble_eq_true rfl⟩) (va_recv hK hI.1 (ci := 5) (q0 := 19) rfl rfl) hI rfl hl.1 rfl (Nat.le_of_ble_eq_true rfl) dX5_multiply_48 (fun H locs hI => ?_)
    refine lv_bipush (v := (8 : Int32)) hx hb dX5_multiply_51 (by decide) ?_
    refine cx_Vi (As := [.int (cProcessor_part st (12 : Int32)), .int (8 : Int32)]) (rest := [.int ((cProcessor_operand st (cProcessor_part st (0 : Int32)) (8 : Int32)) * (cProcessor_operand st (cProcessor_part st (8 : Int32)) (8 : Int32)))]) C (c_cProcessor_operand l g st (cProcessor_part st (12 : Int32)) (8 : Int32)) (cwV 2 hts (gd_V _ mw444 mw445 mw446 mw46 mw447) rfl rfl rfl yd_yX5_operand ⟨Nat.le_of_ble_eq_true rfl, Nat.le_of_ble_eq_true rfl⟩) (va_recv hK hI.1 (ci := 5) (q0 := 19) rfl rfl) hI rfl hl.1 rfl (Nat.le_of_ble_eq_true rfl) dX5_multiply_53 (fun H locs hI => ?_)
    refine lv_iadd hx hb dX5_multiply_56 ?_
    refine lv_istore_n (lv' := [(3, .int (((cProcessor_operand st (cProcessor_part st (0 : Int32)) (8 : Int32)) * (cProcessor_operand st (cProcessor_part st (8 : Int32)) (8 : Int32))) + (cProcessor_operand st (cProcessor_part st (12 : Int32)) (8 : Int32)))), (2, .int (cProcessor_operand st (cProcessor_part st (8 : Int32)) (8 : Int32))), (1, .int (cProcessor_part st (16 : Int32))), (0, .ref (gad g 19))]) hx hb dX5_multiply_57 rfl hl (by decide) rfl (fun ls hl => ?_)
    exact k_cProcessor_multiply_b58 g C st (cProcessor_part st (16 : Int32)) (cProcessor_operand st (cProcessor_part st (8 : Int32)) (8 : Int32)) (((cProcessor_operand st (cProcessor_part st (0 : Int32)) (8 : Int32)) * (cProcessor_operand st (cProcessor_part st (8 : Int32)) (8 : Int32))) + (cProcessor_operand st (cProcessor_part st (12 : Int32)) (8 : Int32))) H locs ls hI (lv_sub hl [3, 2, 1, 0] rfl) X hF
set_option maxHeartbeats 4000000 in
set_option maxRecDepth 100000 in
theorem c_cProcessor_multiply (l : Launch) (g : Gm) (st : CS) : Mi l yX5_multiply wq_X5_multiply rm_cProcessor_multiply (gD g) vwCl (cty g) (cw g) (cz g) [.ref (gad g 19)] st (cProcessor_multiply st).1 (cProcessor_multiply st).2 := by
  intro sz
  refine Met.ofW (cc := cX5_multiply) (maxL := 4) (ret := (some .int)) (by decide) rfl ?_
  intro p e s m args below meth c s₁ B hml hv
  obtain ⟨rfl, hsz, hP, hK, hD0, hZ⟩ := hv
  subst hsz
  have hl := lv_entry ([.ref (gad g 19)]) (n := 4) (Nat.le_of_ble_eq_true rfl)
  rw [lg_entry_eq]
  generalize (lg_sl ([.ref (gad g 19)]) ++ List.replicate (4 - (lg_sl ([.ref (gad g 19)])).length) Slot.unset).toArray = ls at hl ⊢
  exact k_cProcessor_multiply g ⟨B.exec, B.bytes, B.returns, hml, findClass_of_methodNamed B.named, atoms_spec (ws := wq_X5_multiply) B.pre, B.notSynchronized, hK, fun q h => Or.inr h, hZ, cz_ok g⟩ st  _ _ ls ⟨hP, hD0.self, va_S.rf⟩ hl _ rfl
abbrev wq_X5_instruction : List Cond := .code yX5_instruction cX5_instruction 1 (some .int) :: wAll
theorem yd_yX5_instruction : yX5_instruction.cls = RX5 ∧ yX5_instruction.cls ≠ "java/lang/invoke/MethodHandle" ∧ yX5_instruction.cls ≠ "java/lang/invoke/VarHandle" ∧ (parseMethodDescriptor yX5_instruction.desc).map (fun d => d.parameters.length) = some 0 := by decide +kernel
abbrev rm_cProcessor_instruction : Room := { frames := 5, cells := 0, slots := 0, locals := 124 }
def cProcessor_instruction_b125 (st : CS) (y0 : Int32) : CS × Int32 := (st, y0)
set_option maxHeartbeats 4000000 in
set_option maxRecDepth 100000 in
theorem k_cProcessor_instruction_b125 {p : Program} {l : Launch} {e : Env} {s : State} {m : MethodId} {args : Array Value} {below : List Frame} {meth : Method} {c : Code} {A : Nat → Prop} (g : Gm) (C : cX p s m args meth c A cX5_instruction (some .int) 1 RX5 wq_X5_instruction (gD g) vwCl (cty g) (cz g)) (st : CS) (y0 : Int32) (H : Heap) (locs : List Loc) (ls : Array Slot) (hI : cI (gD g) vwCl (cw g) A s st H locs) (hl : lv_has ls 1 [(0, .ref (gad g 19))]) (X : CS × Int32) (hF : X = cProcessor_instruction_b125 st y0) : W p l e rm_cProcessor_instruction s m args below meth c H locs 0 0 (MQ below (cQi (gD g) vwCl (cty g) (cw g) A X.1 X.2) args s 0 0 A) (F0 m 125 ls [.int y0]) := by
  obtain ⟨hx, hb, hr, hml, hown, hts, hlocks, hK, hA, hZ, hzo⟩ := id C
  unfold cProcessor_instruction_b125 at hF
  refine lv_goto (tgt := 133) hx hb dX5_instruction_125 (by decide) ?_
  exact cx_iret C hI (congrArg Prod.fst hF) (congrArg Prod.snd hF) dX5_instruction_133
def cProcessor_instruction_b139 (st : CS) : CS × Int32 := ((cProcessor_transferOne st).1, (cProcessor_transferOne st).2)
set_option maxHeartbeats 4000000 in
set_option maxRecDepth 100000 in
theorem k_cProcessor_instruction_b139 {p : Program} {l : Launch} {e : Env} {s : State} {m : MethodId} {args : Array Value} {below : List Frame} {meth : Method} {c : Code} {A : Nat → Prop} (g : Gm) (C : cX p s m args meth c A cX5_instruction (some .int) 1 RX5 wq_X5_instruction (gD g) vwCl (cty g) (cz g)) (st : CS) (H : Heap) (locs : List Loc) (ls : Array Slot) (hI : cI (gD g) vwCl (cw g) A s st H locs) (hl : lv_has ls 1 [(0, .ref (gad g 19))]) (X : CS × Int32) (hF : X = cProcessor_instruction_b139 st ) : W p l e rm_cProcessor_instruction s m args below meth c H locs 0 0 (MQ below (cQi (gD g) vwCl (cty g) (cw g) A X.1 X.2) args s 0 0 A) (F0 m 139 ls []) := by
  obtain ⟨hx, hb, hr, hml, hown, hts, hlocks, hK, hA, hZ, hzo⟩ := id C
  unfold cProcessor_instruction_b139 at hF
  refine lv_aload_n hx hb dX5_instruction_139 rfl (lv_at hl 0 rfl) ?_
  refine cx_Vi (As := []) (rest := []) C (c_cProcessor_transferOne l g st ) (cwV 0 hts (gd_V _ mw520 mw521 mw522 mw46 mw523) rfl rfl rfl yd_yX5_transferOne ⟨Nat.le_of_ble_eq_true rfl, Nat.le_of_ble_eq_true rfl⟩) (va_recv hK hI.1 (ci := 5) (q0 := 19) rfl rfl) hI rfl hl.1 rfl (Nat.le_of_ble_eq_true rfl) dX5_instruction_140 (fun H locs hI => ?_)
  exact cx_iret C hI (congrArg Prod.fst hF) (congrArg Prod.snd hF) dX5_instruction_143
def cProcessor_instruction_b175 (st : CS) (y0 : Int32) : CS × Int32 := ((cProcessor_take st y0).1, (cProcessor_take st y0).2)
set_option maxHeartbeats 4000000 in
set_option maxRecDepth 100000 in
theorem k_cProcessor_instruction_b175 {p : Program} {l : Launch} {e : Env} {s : State} {m : MethodId} {args : Array Value} {below : List Frame} {meth : Method} {c : Code} {A : Nat → Prop} (g : Gm) (C : cX p s m args meth c A cX5_instruction (some .int) 1 RX5 wq_X5_instruction (gD g) vwCl (cty g) (cz g)) (st : CS) (y0 : Int32) (H : Heap) (locs : List Loc) (ls : Array Slot) (hI : cI (gD g) vwCl (cw g) A s st H locs) (hl : lv_has ls 1 [(0, .ref (gad g 19))]) (X : CS × Int32) (hF : X = cProcessor_instruction_b175 st y0) : W p l e rm_cProcessor_instruction s m args below meth c H locs 0 0 (MQ below (cQi (gD g) vwCl (cty g) (cw g) A X.1 X.2) args s 0 0 A) (F0 m 175 ls [.int y0, .ref (gad g 19)]) := by
  obtain ⟨hx, hb, hr, hml, hown, hts, hlocks, hK, hA, hZ, hzo⟩ := id C
  unfold cProcessor_instruction_b175 at hF
  refine cx_Vi (As := [.int y0]) (rest := []) C (c_cProcessor_take l g st y0) (cwV 1 hts (gd_V _ mw401 mw402 mw403 mw46 mw404) rfl rfl rfl yd_yX5_take ⟨Nat.le_of_ble_eq_true rfl, Nat.le_of_ble_eq_true rfl⟩) (va_recv hK hI.1 (ci := 5) (q0 := 19) rfl rfl) hI rfl hl.1 rfl (Nat.le_of_ble_eq_true rfl) dX5_instruction_175 (fun H locs hI => ?_)
  exact cx_iret C hI (congrArg Prod.fst hF) (congrArg Prod.snd hF) dX5_instruction_178
def cProcessor_instruction_b13 (st : CS) : CS × Int32 := (if ((cProcessor_isSo st (ushr (gI st 32) (28 : Int32))) = 0) then ((sL st 5 ((gL st 5) + (1 : Int64))), (1 : Int32)) else (if ((ushr (gI st 32) (25 : Int32)) &&& (7 : Int32)) = (0 : Int32) then (if (((gI st 32) &&& (144 : Int32)) = (144 : Int32)) then (if (((gI st 32) &&& (29360224 : Int32)) = 0) then (cProcessor_instruction_b125 (cProcessor_multiply st).1 (cProcessor_multiply st).2) else ((cProcessor_take st (0 : Int32)).1, (cProcessor_take st (0 : Int32)).2)) else ((cProcessor_work st).1, (cProcessor_work st).2)) else (if ((ushr (gI st 32) (25 : Int32)) &&& (7 : Int32)) = (1 : Int32) then ((cProcessor_work st).1, (cProcessor_work st).2) else (if ((ushr (gI st 32) (25 : Int32)) &&& (7 : Int32)) = (2 : Int32) then (cProcessor_instruction_b139 st ) else (if ((ushr (gI st 32) (25 : Int32)) &&& (7 : Int32)) = (3 : Int32) then (cProcessor_instruction_b139 st ) else (if ((ushr (gI st 32) (25 : Int32)) &&& (7 : Int32)) = (4 : Int32) then ((cProcessor_transferMany st).1, (cProcessor_transferMany st).2) else (if ((ushr (gI st 32) (25 : Int32)) &&& (7 : Int32)) = (5 : Int32) then ((cProcessor_branch st).1, (cProcessor_branch st).2) else (if ((ushr (gI st 32) (25 : Int32)) &&& (7 : Int32)) = (6 : Int32) then ((cProcessor_take st (0 : Int32)).1, (cProcessor_take st (0 : Int32)).2) else (if ((cProcessor_is st (16777216 : Int32)) = 0) then (cProcessor_instruction_b175 st (0 : Int32)) else (cProcessor_instruction_b175 st (1 : Int32)))))))))))
set_option maxHeartbeats 4000000 in
set_option maxRecDepth 100000 in
theorem k_cProcessor_instruction_b13 {p : Program} {l : Launch} {e : Env} {s : State} {m : MethodId} {args : Array Value} {below : List Frame} {meth : Method} {c : Code} {A : Nat → Prop} (g : Gm) (C : cX p s m args meth c A cX5_instruction (some .int) 1 RX5 wq_X5_instruction (gD g) vwCl (cty g) (cz g)) (st : CS) (H : Heap) (locs : List Loc) (ls : Array Slot) (hI : cI (gD g) vwCl (cw g) A s st H locs) (hl : lv_has ls 1 [(0, .ref (gad g 19))]) (X : CS × Int32) (hF : X = cProcessor_instruction_b13 st ) : W p l e rm_cProcessor_instruction s m args below meth c H locs 0 0 (MQ below (cQi (gD g) vwCl (cty g) (cw g) A X.1 X.2) args s 0 0 A) (F0 m 13 ls []) := by
  obtain ⟨hx, hb, hr, hml, hown, hts, hlocks, hK, hA, hZ, hzo⟩ := id C
  unfold cProcessor_instruction_b13 at hF
  refine lv_aload_n hx hb dX5_instruction_13 rfl (lv_at hl 0 rfl) ?_
  refine lv_aload_n hx hb dX5_instruction_14 rfl (lv_at hl 0 rfl) ?_
  refine va_get (D := gD g) (ci := 5) (C := RX5) (T := TX5) (N := 10) (v := .int (gI st 32)) hx hb hts (fun w h => List.mem_cons_of_mem _ (isX50 w h)) hown hK hI.1 19 rfl rfl 6 (by decide) (hts _ (List.mem_cons_of_mem _ mw311)) (fun _ h9 => h9) rfl dX5_instruction_15 ?_
  refine lv_bipush (v := (28 : Int32)) hx hb dX5_instruction_18 (by decide) ?_
  refine lv_iushr (v := (ushr (gI st 32) (28 : Int32))) hx hb dX5_instruction_20 rfl ?_
  refine cx_Vi (As := [.int (ushr (gI st 32) (28 : Int32))]) (rest := []) C (c_cProcessor_isSo l g st (ushr (gI st 32) (28 : Int32))) (cwV 1 hts (gd_V _ mw370 mw371 mw372 mw46 mw373) rfl rfl rfl yd_yX5_isSo ⟨Nat.le_of_ble_eq_true rfl, Nat.le_of_ble_eq_true rfl⟩) (va_recv hK hI.1 (ci := 5) (q0 := 19) rfl rfl) hI rfl hl.1 rfl (Nat.le_of_ble_eq_true rfl) dX5_instruction_21 (fun H locs hI => ?_)
  refine lv_if_ne (tgt := 39) hx hb dX5_instruction_24 (by decide) (fun c_24 => ?_) (fun c_24 => ?_)
  · have hF := hF.trans (if_neg c_24)
    refine lv_aload_n hx hb dX5_instruction_39 rfl (lv_at hl 0 rfl) ?_
    refine va_get (D := gD g) (ci := 5) (C := RX5) (T := TX5) (N := 10) (v := .int (gI st 32)) hx hb hts (fun w h => List.mem_cons_of_mem _ (isX50 w h)) hown hK hI.1 19 rfl rfl 6 (by decide) (hts _ (List.mem_cons_of_mem _ mw311)) (fun _ h9 => h9) rfl dX5_instruction_40 ?_
    refine lv_bipush (v := (25 : Int32)) hx hb dX5_instruction_43 (by decide) ?_
    refine lv_iushr (v := (ushr (gI st 32) (25 : Int32))) hx hb dX5_instruction_45 rfl ?_
    refine lv_bipush (v := (7 : Int32)) hx hb dX5_instruction_46 (by decide) ?_
    refine lv_iand hx hb dX5_instruction_48 ?_
    by_cases c_49_0 : ((ushr (gI st 32) (25 : Int32)) &&& (7 : Int32)) = (0 : Int32)
    · have hF := hF.trans (if_pos c_49_0)
      refine lv_tableIn (off := 43) (tgt := 92) hx hb dX5_instruction_49 (by rw [c_49_0]; decide) (by rw [c_49_0]; decide) (by rw [c_49_0]; rfl) (by decide) ?_
      refine lv_aload_n hx hb dX5_instruction_92 rfl (lv_at hl 0 rfl) ?_
      refine va_get (D := gD g) (ci := 5) (C := RX5) (T := TX5) (N := 10) (v := .int (gI st 32)) hx hb hts (fun w h => List.mem_cons_of_mem _ (isX50 w h)) hown hK hI.1 19 rfl rfl 6 (by decide) (hts _ (List.mem_cons_of_mem _ mw311)) (fun _ h9 => h9) rfl dX5_instruction_93 ?_
      refine lv_sipush (v := (144 : Int32)) hx hb dX5_instruction_96 (by decide) ?_
      refine lv_iand hx hb dX5_instruction_99 ?_
      refine lv_sipush (v := (144 : Int32)) hx hb dX5_instruction_100 (by decide) ?_
      refine lv_icmp_eq (tgt := 111) hx hb dX5_instruction_103 (by decide) (fun c_103 => ?_) (fun c_103 => ?_)
      · have hF := hF.trans (if_pos c_103)
        refine lv_aload_n hx hb dX5_instruction_111 rfl (lv_at hl 0 rfl) ?_
        refine va_get (D := gD g) (ci := 5) (C := RX5) (T := TX5) (N := 10) (v := .int (gI st 32)) hx hb hts (fun w h => List.mem_cons_of_mem _ (isX50 w h)) hown hK hI.1 19 rfl rfl 6 (by decide) (hts _ (List.mem_cons_of_mem _ mw311)) (fun _ h9 => h9) rfl dX5_instruction_112 ?_
        refine lv_ldc (v := (29360224 : Int32)) hx hb hown (hts _ (List.mem_cons_of_mem _ mw359)) dX5_instruction_115 ?_
        refine lv_iand hx hb dX5_instruction_117 ?_
        refine lv_if_ne (tgt := 128) hx hb dX5_instruction_118 (by decide) (fun c_118 => ?_) (fun c_118 => ?_)
        · have hF := hF.trans (if_neg c_118)
          refine lv_aload_n hx hb dX5_instruction_128 rfl (lv_at hl 0 rfl) ?_
          refine lv_iconst (v := (0 : Int32)) hx hb dX5_instruction_129 (by decide) ?_
          refine cx_Vi (As := [.int (0 : Int32)]) (rest := []) C (c_cProcessor_take l g st (0 : Int32)) (cwV 1 hts (gd_V _ mw401 mw402 mw403 mw46 mw404) rfl rfl rfl yd_yX5_take ⟨Nat.le_of_ble_eq_true rfl, Nat.le_of_ble_eq_true rfl⟩) (va_recv hK hI.1 (ci := 5) (q0 := 19) rfl rfl) hI rfl hl.1 rfl (Nat.le_of_ble_eq_true rfl) dX5_instruction_130 (fun H locs hI => ?_)
          exact cx_iret C hI (congrArg Prod.fst hF) (congrArg Prod.snd hF) dX5_instruction_133
        · have hF := hF.trans (if_pos c_118)
          refine lv_aload_n hx hb dX5_instruction_121 rfl (lv_at hl 0 rfl) ?_
          refine cx_Vi (As := []) (rest := []) C (c_cProcessor_multiply l g st ) (cwV 0 hts (gd_V _ mw509 mw510 mw511 mw46 mw512) rfl rfl rfl yd_yX5_multiply ⟨Nat.le_of_ble_eq_true rfl, Nat.le_of_ble_eq_true rfl⟩) (va_recv hK hI.1 (ci := 5) (q0 := 19) rfl rfl) hI rfl hl.1 rfl (Nat.le_of_ble_eq_true rfl) dX5_instruction_122 (fun H locs hI => ?_)
          exact k_cProcessor_instruction_b125 g C (cProcessor_multiply st).1 (cProcessor_multiply st).2 H locs ls hI (lv_sub hl [0] rfl) X hF
      · have hF := hF.trans (if_neg c_103)
        refine lv_aload_n hx hb dX5_instruction_106 rfl (lv_at hl 0 rfl) ?_
        refine cx_Vi (As := []) (rest := []) C (c_cProcessor_work l g st ) (cwV 0 hts (gd_V _ mw386 mw387 mw388 mw46 mw389) rfl rfl rfl yd_yX5_work ⟨Nat.le_of_ble_eq_true rfl, Nat.le_of_ble_eq_true rfl⟩) (va_recv hK hI.1 (ci := 5) (q0 := 19) rfl rfl) hI rfl hl.1 rfl (Nat.le_of_ble_eq_true rfl) dX5_instruction_107 (fun H locs hI => ?_)
        exact cx_iret C hI (congrArg Prod.fst hF) (congrArg Prod.snd hF) dX5_instruction_110
    · have hF := hF.trans (if_neg c_49_0)
      by_cases c_49_1 : ((ushr (gI st 32) (25 : Int32)) &&& (7 : Int32)) = (1 : Int32)
      · have hF := hF.trans (if_pos c_49_1)
        refine lv_tableIn (off := 85) (tgt := 134) hx hb dX5_instruction_49 (by rw [c_49_1]; decide) (by rw [c_49_1]; decide) (by rw [c_49_1]; rfl) (by decide) ?_
        refine lv_aload_n hx hb dX5_instruction_134 rfl (lv_at hl 0 rfl) ?_
        refine cx_Vi (As := []) (rest := []) C (c_cProcessor_work l g st ) (cwV 0 hts (gd_V _ mw386 mw387 mw388 mw46 mw389) rfl rfl rfl yd_yX5_work ⟨Nat.le_of_ble_eq_true rfl, Nat.le_of_ble_eq_true rfl⟩) (va_recv hK hI.1 (ci := 5) (q0 := 19) rfl rfl) hI rfl hl.1 rfl (Nat.le_of_ble_eq_true rfl) dX5_instruction_135 (fun H locs hI => ?_)
        exact cx_iret C hI (congrArg Prod.fst hF) (congrArg Prod.snd hF) dX5_instruction_138
      · have hF := hF.trans (if_neg c_49_1)
        by_cases c_49_2 : ((ushr (gI st 32) (25 : Int32)) &&& (7 : Int32)) = (2 : Int32)
        · have hF := hF.trans (if_pos c_49_2)
          refine lv_tableIn (off := 90) (tgt := 139) hx hb dX5_instruction_49 (by rw [c_49_2]; decide) (by rw [c_49_2]; decide) (by rw [c_49_2]; rfl) (by decide) ?_
          exact k_cProcessor_instruction_b139 g C st  H locs ls hI (lv_sub hl [0] rfl) X hF
        · have hF := hF.trans (if_neg c_49_2)
          by_cases c_49_3 : ((ushr (gI st 32) (25 : Int32)) &&& (7 : Int32)) = (3 : Int32)
          · have hF := hF.trans (if_pos c_49_3)
            refine lv_tableIn (off := 90) (tgt := 139) hx hb dX5_instruction_49 (by rw [c_49_3]; decide) (by rw [c_49_3]; decide) (by rw [c_49_3]; rfl) (by decide) ?_
            exact k_cProcessor_instruction_b139 g C st  H locs ls hI (lv_sub hl [0] rfl) X hF
          · have hF := hF.trans (if_neg c_49_3)
            by_cases c_49_4 : ((ushr (gI st 32) (25 : Int32)) &&& (7 : Int32)) = (4 : Int32)
            · have hF := hF.trans (if_pos c_49_4)
              refine lv_tableIn (off := 95) (tgt := 144) hx hb dX5_instruction_49 (by rw [c_49_4]; decide) (by rw [c_49_4]; decide) (by rw [c_49_4]; rfl) (by decide) ?_
              refine lv_aload_n hx hb dX5_instruction_144 rfl (lv_at hl 0 rfl) ?_
              refine cx_Vi (As := []) (rest := []) C (c_cProcessor_transferMany l g st ) (cwV 0 hts (gd_V _ mw641 mw642 mw643 mw46 mw644) rfl rfl rfl yd_yX5_transferMany ⟨Nat.le_of_ble_eq_true rfl, Nat.le_of_ble_eq_true rfl⟩) (va_recv hK hI.1 (ci := 5) (q0 := 19) rfl rfl) hI rfl hl.1 rfl (Nat.le_of_ble_eq_true rfl) dX5_instruction_145 (fun H locs hI => ?_)
              exact cx_iret C hI (congrArg Prod.fst hF) (congrArg Prod.snd hF) dX5_instruction_148
            · have hF := hF.trans (if_neg c_49_4)
              by_cases c_49_5 : ((ushr (gI st 32) (25 : Int32)) &&& (7 : Int32)) = (5 : Int32)
              · have hF := hF.trans (if_pos c_49_5)
                refine lv_tableIn (off := 100) (tgt := 149) hx hb dX5_instruction_49 (by rw [c_49_5]; decide) (by rw [c_49_5]; decide) (by rw [c_49_5]; rfl) (by decide) ?_
                refine lv_aload_n hx hb dX5_instruction_149 rfl (lv_at hl 0 rfl) ?_
                refine cx_Vi (As := []) (rest := []) C (c_cProcessor_branch l g st ) (cwV 0 hts (gd_V _ mw670 mw671 mw672 mw46 mw673) rfl rfl rfl yd_yX5_branch ⟨Nat.le_of_ble_eq_true rfl, Nat.le_of_ble_eq_true rfl⟩) (va_recv hK hI.1 (ci := 5) (q0 := 19) rfl rfl) hI rfl hl.1 rfl (Nat.le_of_ble_eq_true rfl) dX5_instruction_150 (fun H locs hI => ?_)
                exact cx_iret C hI (congrArg Prod.fst hF) (congrArg Prod.snd hF) dX5_instruction_153
              · have hF := hF.trans (if_neg c_49_5)
                by_cases c_49_6 : ((ushr (gI st 32) (25 : Int32)) &&& (7 : Int32)) = (6 : Int32)
                · have hF := hF.trans (if_pos c_49_6)
                  refine lv_tableIn (off := 105) (tgt := 154) hx hb dX5_instruction_49 (by rw [c_49_6]; decide) (by rw [c_49_6]; decide) (by rw [c_49_6]; rfl) (by decide) ?_
                  refine lv_aload_n hx hb dX5_instruction_154 rfl (lv_at hl 0 rfl) ?_
                  refine lv_iconst (v := (0 : Int32)) hx hb dX5_instruction_155 (by decide) ?_
                  refine cx_Vi (As := [.int (0 : Int32)]) (rest := []) C (c_cProcessor_take l g st (0 : Int32)) (cwV 1 hts (gd_V _ mw401 mw402 mw403 mw46 mw404) rfl rfl rfl yd_yX5_take ⟨Nat.le_of_ble_eq_true rfl, Nat.le_of_ble_eq_true rfl⟩) (va_recv hK hI.1 (ci := 5) (q0 := 19) rfl rfl) hI rfl hl.1 rfl (Nat.le_of_ble_eq_true rfl) dX5_instruction_156 (fun H locs hI => ?_)
                  exact cx_iret C hI (congrArg Prod.fst hF) (congrArg Prod.snd hF) dX5_instruction_159
                · have hF := hF.trans (if_neg c_49_6)
                  refine lv_tableOut (tgt := 160) hx hb dX5_instruction_49 (by have h0 := lv_neT (a := 0) c_49_0 (by decide); have h1 := lv_neT (a := 1) c_49_1 (by decide); have h2 := lv_neT (a := 2) c_49_2 (by decide); have h3 := lv_neT (a := 3) c_49_3 (by decide); have h4 := lv_neT (a := 4) c_49_4 (by decide); have h5 := lv_neT (a := 5) c_49_5 (by decide); have h6 := lv_neT (a := 6) c_49_6 (by decide); omega) (by decide) ?_
                  refine lv_aload_n hx hb dX5_instruction_160 rfl (lv_at hl 0 rfl) ?_
                  refine lv_aload_n hx hb dX5_instruction_161 rfl (lv_at hl 0 rfl) ?_
                  refine lv_ldc (v := (16777216 : Int32)) hx hb hown (hts _ (List.mem_cons_of_mem _ mw360)) dX5_instruction_162 ?_
                  refine cx_Vi (As := [.int (16777216 : Int32)]) (rest := [.ref (gad g 19)]) C (c_cProcessor_is l g st (16777216 : Int32)) (cwV 1 hts (gd_V _ mw397 mw398 mw399 mw46 mw400) rfl rfl rfl yd_yX5_is ⟨Nat.le_of_ble_eq_true rfl, Nat.le_of_ble_eq_true rfl⟩) (va_recv hK hI.1 (ci := 5) (q0 := 19) rfl rfl) hI rfl hl.1 rfl (Nat.le_of_ble_eq_true rfl) dX5_instruction_164 (fun H locs hI => ?_)
                  refine lv_if_eq (tgt := 174) hx hb dX5_instruction_167 (by decide) (fun c_167 => ?_) (fun c_167 => ?_)
                  · have hF := hF.trans (if_pos c_167)
                    refine lv_iconst (v := (0 : Int32)) hx hb dX5_instruction_174 (by decide) ?_
                    exact k_cProcessor_instruction_b175 g C st (0 : Int32) H locs ls hI (lv_sub hl [0] rfl) X hF
                  · have hF := hF.trans (if_neg c_167)
                    refine lv_iconst (v := (1 : Int32)) hx hb dX5_instruction_170 (by decide) ?_
                    refine lv_goto (tgt := 175) hx hb dX5_instruction_171 (by decide) ?_
                    exact k_cProcessor_instruction_b175 g C st (1 : Int32) H locs ls hI (lv_sub hl [0] rfl) X hF
  · have hF := hF.trans (if_pos c_24)
    refine lv_aload_n hx hb dX5_instruction_27 rfl (lv_at hl 0 rfl) ?_
    refine lv_dup hx hb dX5_instruction_28 rfl ?_
    refine va_get (D := gD g) (ci := 5) (C := RX5) (T := TX5) (N := 10) (v := .long (gL st 5)) hx hb hts (fun w h => List.mem_cons_of_mem _ (isX50 w h)) hown hK hI.1 19 rfl rfl 9 (by decide) (hts _ (List.mem_cons_of_mem _ mw358)) (fun _ h9 => h9) rfl dX5_instruction_29 ?_
    refine lv_lconst (v := (1 : Int64)) hx hb dX5_instruction_32 (by decide) ?_
    refine lv_ladd hx hb dX5_instruction_33 ?_
    refine va_put (D := gD g) (ci := 5) (C := RX5) (T := TX5) (N := 10) (v := .long ((gL st 5) + (1 : Int64))) (ty := .long) hx hb hts (fun w h => List.mem_cons_of_mem _ (isX50 w h)) tyX5 tyX5_ok nmX5 hown hK hI.1 hI.2.1 hI.2.2 19 rfl rfl 9 (by decide) (hts _ (List.mem_cons_of_mem _ mw358)) (fun _ h9 => h9) rfl (by decide +kernel) rfl rfl (Nat.le_of_ble_eq_true rfl) dX5_instruction_34 (fun H locs hP hD hS => ?_)
    have hI : cI (gD g) vwCl (cw g) A s (sL st 5 ((gL st 5) + (1 : Int64))) H locs := ⟨hP, hD, hS⟩
    refine lv_iconst (v := (1 : Int32)) hx hb dX5_instruction_37 (by decide) ?_
    exact cx_iret C hI (congrArg Prod.fst hF) (congrArg Prod.snd hF) dX5_instruction_38
def cProcessor_instruction (st : CS) : CS × Int32 := (cProcessor_instruction_b13 (cRegisters_goTo st ((gI st 31) + (4 : Int32))) )
set_option maxHeartbeats 4000000 in
set_option maxRecDepth 100000 in
theorem k_cProcessor_instruction {p : Program} {l : Launch} {e : Env} {s : State} {m : MethodId} {args : Array Value} {below : List Frame} {meth : Method} {c : Code} {A : Nat → Prop} (g : Gm) (C : cX p s m args meth c A cX5_instruction (some .int) 1 RX5 wq_X5_instruction (gD g) vwCl (cty g) (cz g)) (st : CS) (H : Heap) (locs : List Loc) (ls : Array Slot) (hI : cI (gD g) vwCl (cw g) A s st H locs) (hl : lv_has ls 1 [(0, .ref (gad g 19))]) (X : CS × Int32) (hF : X = cProcessor_instruction st) : W p l e rm_cProcessor_instruction s m args below meth c H locs 0 0 (MQ below (cQi (gD g) vwCl (cty g) (cw g) A X.1 X.2) args s 0 0 A) (F0 m 0 ls []) := by
  obtain ⟨hx, hb, hr, hml, hown, hts, hlocks, hK, hA, hZ, hzo⟩ := id C
  unfold cProcessor_instruction at hF
  refine lv_aload_n hx hb dX5_instruction_0 rfl (lv_at hl 0 rfl) ?_
  refine va_get (D := gD g) (ci := 5) (C := RX5) (T := TX5) (N := 10) (v := .ref (gad g 2)) hx hb hts (fun w h => List.mem_cons_of_mem _ (isX50 w h)) hown hK hI.1 19 rfl rfl 0 (by decide) (hts _ (List.mem_cons_of_mem _ mw112)) (fun _ h9 => h9) rfl dX5_instruction_1 ?_
  refine lv_aload_n hx hb dX5_instruction_4 rfl (lv_at hl 0 rfl) ?_
  refine va_get (D := gD g) (ci := 5) (C := RX5) (T := TX5) (N := 10) (v := .int (gI st 31)) hx hb hts (fun w h => List.mem_cons_of_mem _ (isX50 w h)) hown hK hI.1 19 rfl rfl 5 (by decide) (hts _ (List.mem_cons_of_mem _ mw308)) (fun _ h9 => h9) rfl dX5_instruction_5 ?_
  refine lv_iconst (v := (4 : Int32)) hx hb dX5_instruction_8 (by decide) ?_
  refine lv_iadd hx hb dX5_instruction_9 ?_
  refine cx_Vv (As := [.int ((gI st 31) + (4 : Int32))]) (rest := []) C (c_cRegisters_goTo l g st ((gI st 31) + (4 : Int32))) (cwV 1 hts (gd_V _ mw361 mw362 mw363 mw14 mw364) rfl rfl rfl yd_yX6_goTo ⟨Nat.le_of_ble_eq_true rfl, Nat.le_of_ble_eq_true rfl⟩) (va_recv hK hI.1 (ci := 6) (q0 := 2) rfl rfl) hI rfl hl.1 rfl (Nat.le_of_ble_eq_true rfl) dX5_instruction_10 (fun H locs hI => ?_)
  exact k_cProcessor_instruction_b13 g C (cRegisters_goTo st ((gI st 31) + (4 : Int32)))  H locs ls hI (lv_sub hl [0] rfl) X hF
set_option maxHeartbeats 4000000 in
set_option maxRecDepth 100000 in
theorem c_cProcessor_instruction (l : Launch) (g : Gm) (st : CS) : Mi l yX5_instruction wq_X5_instruction rm_cProcessor_instruction (gD g) vwCl (cty g) (cw g) (cz g) [.ref (gad g 19)] st (cProcessor_instruction st).1 (cProcessor_instruction st).2 := by
  intro sz
  refine Met.ofW (cc := cX5_instruction) (maxL := 1) (ret := (some .int)) (by decide) rfl ?_
  intro p e s m args below meth c s₁ B hml hv
  obtain ⟨rfl, hsz, hP, hK, hD0, hZ⟩ := hv
  subst hsz
  have hl := lv_entry ([.ref (gad g 19)]) (n := 1) (Nat.le_of_ble_eq_true rfl)
  rw [lg_entry_eq]
  generalize (lg_sl ([.ref (gad g 19)]) ++ List.replicate (1 - (lg_sl ([.ref (gad g 19)])).length) Slot.unset).toArray = ls at hl ⊢
  exact k_cProcessor_instruction g ⟨B.exec, B.bytes, B.returns, hml, findClass_of_methodNamed B.named, atoms_spec (ws := wq_X5_instruction) B.pre, B.notSynchronized, hK, fun q h => Or.inr h, hZ, cz_ok g⟩ st  _ _ ls ⟨hP, hD0.self, va_S.rf⟩ hl _ rfl
