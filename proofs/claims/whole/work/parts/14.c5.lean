abbrev wq_X10_beginAnew : List Cond := .code yX10_beginAnew cX10_beginAnew 1 none :: wAll
theorem yd_yX10_beginAnew : yX10_beginAnew.cls = RX10 ∧ yX10_beginAnew.cls ≠ "java/lang/invoke/MethodHandle" ∧ yX10_beginAnew.cls ≠ "java/lang/invoke/VarHandle" ∧ (parseMethodDescriptor yX10_beginAnew.desc).map (fun d => d.parameters.length) = some 0 := by decide +kernel
abbrev rm_cPageBoard_beginAnew : Room := { frames := 2, cells := 0, slots := 0, locals := 43 }
def cPageBoard_beginAnew_b42 (st : CS) : CS := (cScreen_begin st)
set_option maxHeartbeats 4000000 in
set_option maxRecDepth 100000 in
theorem k_cPageBoard_beginAnew_b42 {p : Program} {l : Launch} {e : Env} {s : State} {m : MethodId} {args : Array Value} {below : List Frame} {meth : Method} {c : Code} {A : Nat → Prop} (g : Gm) (C : cX p s m args meth c A cX10_beginAnew none 1 RX10 wq_X10_beginAnew (gD g) vwCl (cty g) (cz g)) (st : CS) (H : Heap) (locs : List Loc) (ls : Array Slot) (hI : cI (gD g) vwCl (cw g) A s st H locs) (hl : lv_has ls 1 [(0, .ref (gad g 0))]) (X : CS) (hF : X = cPageBoard_beginAnew_b42 st ) : W p l e rm_cPageBoard_beginAnew s m args below meth c H locs 0 0 (MQ below (cQv (gD g) vwCl (cty g) (cw g) A X) args s 0 0 A) (F0 m 42 ls []) := by
  obtain ⟨hx, hb, hr, hml, hown, hts, hlocks, hK, hA, hZ, hzo⟩ := id C
  unfold cPageBoard_beginAnew_b42 at hF
  refine lv_aload_n hx hb dX10_beginAnew_42 rfl (lv_at hl 0 rfl) ?_
  refine va_get (D := gD g) (ci := 10) (C := RX10) (T := TX10) (N := 13) (v := .ref (gad g 15)) hx hb hts (fun w h => List.mem_cons_of_mem _ (isX100 w h)) hown hK hI.1 0 rfl rfl 7 (by decide) (hts _ (List.mem_cons_of_mem _ mw39)) (fun _ h9 => h9) rfl dX10_beginAnew_43 ?_
  refine cx_Vv (As := []) (rest := []) C (c_cScreen_begin l g st ) (cwV 0 hts (gd_V _ mw170 mw171 mw172 mw38 mw173) rfl rfl rfl yd_yX7_begin ⟨Nat.le_of_ble_eq_true rfl, Nat.le_of_ble_eq_true rfl⟩) (va_recv hK hI.1 (ci := 7) (q0 := 15) rfl rfl) hI rfl hl.1 rfl (Nat.le_of_ble_eq_true rfl) dX10_beginAnew_46 (fun H locs hI => ?_)
  exact cx_vret C hI hF dX10_beginAnew_49
def cPageBoard_beginAnew_b35 (st : CS) : CS := (cPageBoard_beginAnew_b42 (cController_begin st) )
set_option maxHeartbeats 4000000 in
set_option maxRecDepth 100000 in
theorem k_cPageBoard_beginAnew_b35 {p : Program} {l : Launch} {e : Env} {s : State} {m : MethodId} {args : Array Value} {below : List Frame} {meth : Method} {c : Code} {A : Nat → Prop} (g : Gm) (C : cX p s m args meth c A cX10_beginAnew none 1 RX10 wq_X10_beginAnew (gD g) vwCl (cty g) (cz g)) (st : CS) (H : Heap) (locs : List Loc) (ls : Array Slot) (hI : cI (gD g) vwCl (cw g) A s st H locs) (hl : lv_has ls 1 [(0, .ref (gad g 0))]) (X : CS) (hF : X = cPageBoard_beginAnew_b35 st ) : W p l e rm_cPageBoard_beginAnew s m args below meth c H locs 0 0 (MQ below (cQv (gD g) vwCl (cty g) (cw g) A X) args s 0 0 A) (F0 m 35 ls []) := by
  obtain ⟨hx, hb, hr, hml, hown, hts, hlocks, hK, hA, hZ, hzo⟩ := id C
  unfold cPageBoard_beginAnew_b35 at hF
  refine lv_aload_n hx hb dX10_beginAnew_35 rfl (lv_at hl 0 rfl) ?_
  refine va_get (D := gD g) (ci := 10) (C := RX10) (T := TX10) (N := 13) (v := .ref (gad g 12)) hx hb hts (fun w h => List.mem_cons_of_mem _ (isX100 w h)) hown hK hI.1 0 rfl rfl 6 (by decide) (hts _ (List.mem_cons_of_mem _ mw35)) (fun _ h9 => h9) rfl dX10_beginAnew_36 ?_
  refine cx_Vv (As := []) (rest := []) C (c_cController_begin l g st ) (cwV 0 hts (gd_V _ mw158 mw159 mw160 mw34 mw161) rfl rfl rfl yd_yX1_begin ⟨Nat.le_of_ble_eq_true rfl, Nat.le_of_ble_eq_true rfl⟩) (va_recv hK hI.1 (ci := 1) (q0 := 12) rfl rfl) hI rfl hl.1 rfl (Nat.le_of_ble_eq_true rfl) dX10_beginAnew_39 (fun H locs hI => ?_)
  exact k_cPageBoard_beginAnew_b42 g C (cController_begin st)  H locs ls hI (lv_sub hl [0] rfl) X hF
def cPageBoard_beginAnew_b28 (st : CS) : CS := (cPageBoard_beginAnew_b35 (cDisk_begin st) )
set_option maxHeartbeats 4000000 in
set_option maxRecDepth 100000 in
theorem k_cPageBoard_beginAnew_b28 {p : Program} {l : Launch} {e : Env} {s : State} {m : MethodId} {args : Array Value} {below : List Frame} {meth : Method} {c : Code} {A : Nat → Prop} (g : Gm) (C : cX p s m args meth c A cX10_beginAnew none 1 RX10 wq_X10_beginAnew (gD g) vwCl (cty g) (cz g)) (st : CS) (H : Heap) (locs : List Loc) (ls : Array Slot) (hI : cI (gD g) vwCl (cw g) A s st H locs) (hl : lv_has ls 1 [(0, .ref (gad g 0))]) (X : CS) (hF : X = cPageBoard_beginAnew_b28 st ) : W p l e rm_cPageBoard_beginAnew s m args below meth c H locs 0 0 (MQ below (cQv (gD g) vwCl (cty g) (cw g) A X) args s 0 0 A) (F0 m 28 ls []) := by
  obtain ⟨hx, hb, hr, hml, hown, hts, hlocks, hK, hA, hZ, hzo⟩ := id C
  unfold cPageBoard_beginAnew_b28 at hF
  refine lv_aload_n hx hb dX10_beginAnew_28 rfl (lv_at hl 0 rfl) ?_
  refine va_get (D := gD g) (ci := 10) (C := RX10) (T := TX10) (N := 13) (v := .ref (gad g 10)) hx hb hts (fun w h => List.mem_cons_of_mem _ (isX100 w h)) hown hK hI.1 0 rfl rfl 5 (by decide) (hts _ (List.mem_cons_of_mem _ mw31)) (fun _ h9 => h9) rfl dX10_beginAnew_29 ?_
  refine cx_Vv (As := []) (rest := []) C (c_cDisk_begin l g st ) (cwV 0 hts (gd_V _ mw150 mw151 mw152 mw30 mw153) rfl rfl rfl yd_yX2_begin ⟨Nat.le_of_ble_eq_true rfl, Nat.le_of_ble_eq_true rfl⟩) (va_recv hK hI.1 (ci := 2) (q0 := 10) rfl rfl) hI rfl hl.1 rfl (Nat.le_of_ble_eq_true rfl) dX10_beginAnew_32 (fun H locs hI => ?_)
  exact k_cPageBoard_beginAnew_b35 g C (cDisk_begin st)  H locs ls hI (lv_sub hl [0] rfl) X hF
def cPageBoard_beginAnew_b21 (st : CS) : CS := (cPageBoard_beginAnew_b28 (cSerial_begin st) )
set_option maxHeartbeats 4000000 in
set_option maxRecDepth 100000 in
theorem k_cPageBoard_beginAnew_b21 {p : Program} {l : Launch} {e : Env} {s : State} {m : MethodId} {args : Array Value} {below : List Frame} {meth : Method} {c : Code} {A : Nat → Prop} (g : Gm) (C : cX p s m args meth c A cX10_beginAnew none 1 RX10 wq_X10_beginAnew (gD g) vwCl (cty g) (cz g)) (st : CS) (H : Heap) (locs : List Loc) (ls : Array Slot) (hI : cI (gD g) vwCl (cw g) A s st H locs) (hl : lv_has ls 1 [(0, .ref (gad g 0))]) (X : CS) (hF : X = cPageBoard_beginAnew_b21 st ) : W p l e rm_cPageBoard_beginAnew s m args below meth c H locs 0 0 (MQ below (cQv (gD g) vwCl (cty g) (cw g) A X) args s 0 0 A) (F0 m 21 ls []) := by
  obtain ⟨hx, hb, hr, hml, hown, hts, hlocks, hK, hA, hZ, hzo⟩ := id C
  unfold cPageBoard_beginAnew_b21 at hF
  refine lv_aload_n hx hb dX10_beginAnew_21 rfl (lv_at hl 0 rfl) ?_
  refine va_get (D := gD g) (ci := 10) (C := RX10) (T := TX10) (N := 13) (v := .ref (gad g 8)) hx hb hts (fun w h => List.mem_cons_of_mem _ (isX100 w h)) hown hK hI.1 0 rfl rfl 4 (by decide) (hts _ (List.mem_cons_of_mem _ mw27)) (fun _ h9 => h9) rfl dX10_beginAnew_22 ?_
  refine cx_Vv (As := []) (rest := []) C (c_cSerial_begin l g st ) (cwV 0 hts (gd_V _ mw144 mw145 mw146 mw26 mw147) rfl rfl rfl yd_yX8_begin ⟨Nat.le_of_ble_eq_true rfl, Nat.le_of_ble_eq_true rfl⟩) (va_recv hK hI.1 (ci := 8) (q0 := 8) rfl rfl) hI rfl hl.1 rfl (Nat.le_of_ble_eq_true rfl) dX10_beginAnew_25 (fun H locs hI => ?_)
  exact k_cPageBoard_beginAnew_b28 g C (cSerial_begin st)  H locs ls hI (lv_sub hl [0] rfl) X hF
def cPageBoard_beginAnew_b14 (st : CS) : CS := (cPageBoard_beginAnew_b21 (cLines_begin st) )
set_option maxHeartbeats 4000000 in
set_option maxRecDepth 100000 in
theorem k_cPageBoard_beginAnew_b14 {p : Program} {l : Launch} {e : Env} {s : State} {m : MethodId} {args : Array Value} {below : List Frame} {meth : Method} {c : Code} {A : Nat → Prop} (g : Gm) (C : cX p s m args meth c A cX10_beginAnew none 1 RX10 wq_X10_beginAnew (gD g) vwCl (cty g) (cz g)) (st : CS) (H : Heap) (locs : List Loc) (ls : Array Slot) (hI : cI (gD g) vwCl (cw g) A s st H locs) (hl : lv_has ls 1 [(0, .ref (gad g 0))]) (X : CS) (hF : X = cPageBoard_beginAnew_b14 st ) : W p l e rm_cPageBoard_beginAnew s m args below meth c H locs 0 0 (MQ below (cQv (gD g) vwCl (cty g) (cw g) A X) args s 0 0 A) (F0 m 14 ls []) := by
  obtain ⟨hx, hb, hr, hml, hown, hts, hlocks, hK, hA, hZ, hzo⟩ := id C
  unfold cPageBoard_beginAnew_b14 at hF
  refine lv_aload_n hx hb dX10_beginAnew_14 rfl (lv_at hl 0 rfl) ?_
  refine va_get (D := gD g) (ci := 10) (C := RX10) (T := TX10) (N := 13) (v := .ref (gad g 7)) hx hb hts (fun w h => List.mem_cons_of_mem _ (isX100 w h)) hown hK hI.1 0 rfl rfl 3 (by decide) (hts _ (List.mem_cons_of_mem _ mw23)) (fun _ h9 => h9) rfl dX10_beginAnew_15 ?_
  refine cx_Vv (As := []) (rest := []) C (c_cLines_begin l g st ) (cwV 0 hts (gd_V _ mw134 mw135 mw136 mw22 mw137) rfl rfl rfl yd_yX4_begin ⟨Nat.le_of_ble_eq_true rfl, Nat.le_of_ble_eq_true rfl⟩) (va_recv hK hI.1 (ci := 4) (q0 := 7) rfl rfl) hI rfl hl.1 rfl (Nat.le_of_ble_eq_true rfl) dX10_beginAnew_18 (fun H locs hI => ?_)
  exact k_cPageBoard_beginAnew_b21 g C (cLines_begin st)  H locs ls hI (lv_sub hl [0] rfl) X hF
def cPageBoard_beginAnew_b7 (st : CS) : CS := (cPageBoard_beginAnew_b14 (cEntries_begin st) )
set_option maxHeartbeats 4000000 in
set_option maxRecDepth 100000 in
theorem k_cPageBoard_beginAnew_b7 {p : Program} {l : Launch} {e : Env} {s : State} {m : MethodId} {args : Array Value} {below : List Frame} {meth : Method} {c : Code} {A : Nat → Prop} (g : Gm) (C : cX p s m args meth c A cX10_beginAnew none 1 RX10 wq_X10_beginAnew (gD g) vwCl (cty g) (cz g)) (st : CS) (H : Heap) (locs : List Loc) (ls : Array Slot) (hI : cI (gD g) vwCl (cw g) A s st H locs) (hl : lv_has ls 1 [(0, .ref (gad g 0))]) (X : CS) (hF : X = cPageBoard_beginAnew_b7 st ) : W p l e rm_cPageBoard_beginAnew s m args below meth c H locs 0 0 (MQ below (cQv (gD g) vwCl (cty g) (cw g) A X) args s 0 0 A) (F0 m 7 ls []) := by
  obtain ⟨hx, hb, hr, hml, hown, hts, hlocks, hK, hA, hZ, hzo⟩ := id C
  unfold cPageBoard_beginAnew_b7 at hF
  refine lv_aload_n hx hb dX10_beginAnew_7 rfl (lv_at hl 0 rfl) ?_
  refine va_get (D := gD g) (ci := 10) (C := RX10) (T := TX10) (N := 13) (v := .ref (gad g 4)) hx hb hts (fun w h => List.mem_cons_of_mem _ (isX100 w h)) hown hK hI.1 0 rfl rfl 2 (by decide) (hts _ (List.mem_cons_of_mem _ mw19)) (fun _ h9 => h9) rfl dX10_beginAnew_8 ?_
  refine cx_Vv (As := []) (rest := []) C (c_cEntries_begin l g st ) (cwV 0 hts (gd_V _ mw128 mw129 mw130 mw18 mw131) rfl rfl rfl yd_yX3_begin ⟨Nat.le_of_ble_eq_true rfl, Nat.le_of_ble_eq_true rfl⟩) (va_recv hK hI.1 (ci := 3) (q0 := 4) rfl rfl) hI rfl hl.1 rfl (Nat.le_of_ble_eq_true rfl) dX10_beginAnew_11 (fun H locs hI => ?_)
  exact k_cPageBoard_beginAnew_b14 g C (cEntries_begin st)  H locs ls hI (lv_sub hl [0] rfl) X hF
def cPageBoard_beginAnew (st : CS) : CS := (cPageBoard_beginAnew_b7 (cRegisters_begin st) )
set_option maxHeartbeats 4000000 in
set_option maxRecDepth 100000 in
theorem k_cPageBoard_beginAnew {p : Program} {l : Launch} {e : Env} {s : State} {m : MethodId} {args : Array Value} {below : List Frame} {meth : Method} {c : Code} {A : Nat → Prop} (g : Gm) (C : cX p s m args meth c A cX10_beginAnew none 1 RX10 wq_X10_beginAnew (gD g) vwCl (cty g) (cz g)) (st : CS) (H : Heap) (locs : List Loc) (ls : Array Slot) (hI : cI (gD g) vwCl (cw g) A s st H locs) (hl : lv_has ls 1 [(0, .ref (gad g 0))]) (X : CS) (hF : X = cPageBoard_beginAnew st) : W p l e rm_cPageBoard_beginAnew s m args below meth c H locs 0 0 (MQ below (cQv (gD g) vwCl (cty g) (cw g) A X) args s 0 0 A) (F0 m 0 ls []) := by
  obtain ⟨hx, hb, hr, hml, hown, hts, hlocks, hK, hA, hZ, hzo⟩ := id C
  unfold cPageBoard_beginAnew at hF
  refine lv_aload_n hx hb dX10_beginAnew_0 rfl (lv_at hl 0 rfl) ?_
  refine va_get (D := gD g) (ci := 10) (C := RX10) (T := TX10) (N := 13) (v := .ref (gad g 2)) hx hb hts (fun w h => List.mem_cons_of_mem _ (isX100 w h)) hown hK hI.1 0 rfl rfl 1 (by decide) (hts _ (List.mem_cons_of_mem _ mw15)) (fun _ h9 => h9) rfl dX10_beginAnew_1 ?_
  refine cx_Vv (As := []) (rest := []) C (c_cRegisters_begin l g st ) (cwV 0 hts (gd_V _ mw119 mw120 mw121 mw14 mw122) rfl rfl rfl yd_yX6_begin ⟨Nat.le_of_ble_eq_true rfl, Nat.le_of_ble_eq_true rfl⟩) (va_recv hK hI.1 (ci := 6) (q0 := 2) rfl rfl) hI rfl hl.1 rfl (Nat.le_of_ble_eq_true rfl) dX10_beginAnew_4 (fun H locs hI => ?_)
  exact k_cPageBoard_beginAnew_b7 g C (cRegisters_begin st)  H locs ls hI (lv_sub hl [0] rfl) X hF
set_option maxHeartbeats 4000000 in
set_option maxRecDepth 100000 in
theorem c_cPageBoard_beginAnew (l : Launch) (g : Gm) (st : CS) : Mv l yX10_beginAnew wq_X10_beginAnew rm_cPageBoard_beginAnew (gD g) vwCl (cty g) (cw g) (cz g) [.ref (gad g 0)] st (cPageBoard_beginAnew st) := by
  intro sz
  refine Met.ofW (cc := cX10_beginAnew) (maxL := 1) (ret := none) (by decide) rfl ?_
  intro p e s m args below meth c s₁ B hml hv
  obtain ⟨rfl, hsz, hP, hK, hD0, hZ⟩ := hv
  subst hsz
  have hl := lv_entry ([.ref (gad g 0)]) (n := 1) (Nat.le_of_ble_eq_true rfl)
  rw [lg_entry_eq]
  generalize (lg_sl ([.ref (gad g 0)]) ++ List.replicate (1 - (lg_sl ([.ref (gad g 0)])).length) Slot.unset).toArray = ls at hl ⊢
  exact k_cPageBoard_beginAnew g ⟨B.exec, B.bytes, B.returns, hml, findClass_of_methodNamed B.named, atoms_spec (ws := wq_X10_beginAnew) B.pre, B.notSynchronized, hK, fun q h => Or.inr h, hZ, cz_ok g⟩ st  _ _ ls ⟨hP, hD0.self, va_S.rf⟩ hl _ rfl
abbrev wq_X10_reset : List Cond := .code yX10_reset cX10_reset 1 none :: wAll
theorem yd_yX10_reset : yX10_reset.cls = RX10 ∧ yX10_reset.cls ≠ "java/lang/invoke/MethodHandle" ∧ yX10_reset.cls ≠ "java/lang/invoke/VarHandle" ∧ (parseMethodDescriptor yX10_reset.desc).map (fun d => d.parameters.length) = some 0 := by decide +kernel
abbrev rm_cPageBoard_reset : Room := { frames := 3, cells := 0, slots := 0, locals := 63 }
def cPageBoard_reset (st : CS) : CS := (cPageBoard_beginAnew st)
set_option maxHeartbeats 4000000 in
set_option maxRecDepth 100000 in
theorem k_cPageBoard_reset {p : Program} {l : Launch} {e : Env} {s : State} {m : MethodId} {args : Array Value} {below : List Frame} {meth : Method} {c : Code} {A : Nat → Prop} (g : Gm) (C : cX p s m args meth c A cX10_reset none 1 RX10 wq_X10_reset (gD g) vwCl (cty g) (cz g)) (st : CS) (H : Heap) (locs : List Loc) (ls : Array Slot) (hI : cI (gD g) vwCl (cw g) A s st H locs) (hl : lv_has ls 1 [(0, .ref (gad g 0))]) (X : CS) (hF : X = cPageBoard_reset st) : W p l e rm_cPageBoard_reset s m args below meth c H locs 0 0 (MQ below (cQv (gD g) vwCl (cty g) (cw g) A X) args s 0 0 A) (F0 m 0 ls []) := by
  obtain ⟨hx, hb, hr, hml, hown, hts, hlocks, hK, hA, hZ, hzo⟩ := id C
  unfold cPageBoard_reset at hF
  refine lv_aload_n hx hb dX10_reset_0 rfl (lv_at hl 0 rfl) ?_
  refine cx_Vv (As := []) (rest := []) C (c_cPageBoard_beginAnew l g st ) (cwV 0 hts (gd_V _ mw115 mw116 mw117 mw1 mw118) rfl rfl rfl yd_yX10_beginAnew ⟨Nat.le_of_ble_eq_true rfl, Nat.le_of_ble_eq_true rfl⟩) (va_recv hK hI.1 (ci := 10) (q0 := 0) rfl rfl) hI rfl hl.1 rfl (Nat.le_of_ble_eq_true rfl) dX10_reset_1 (fun H locs hI => ?_)
  exact cx_vret C hI hF dX10_reset_4
set_option maxHeartbeats 4000000 in
set_option maxRecDepth 100000 in
theorem c_cPageBoard_reset (l : Launch) (g : Gm) (st : CS) : Mv l yX10_reset wq_X10_reset rm_cPageBoard_reset (gD g) vwCl (cty g) (cw g) (cz g) [.ref (gad g 0)] st (cPageBoard_reset st) := by
  intro sz
  refine Met.ofW (cc := cX10_reset) (maxL := 1) (ret := none) (by decide) rfl ?_
  intro p e s m args below meth c s₁ B hml hv
  obtain ⟨rfl, hsz, hP, hK, hD0, hZ⟩ := hv
  subst hsz
  have hl := lv_entry ([.ref (gad g 0)]) (n := 1) (Nat.le_of_ble_eq_true rfl)
  rw [lg_entry_eq]
  generalize (lg_sl ([.ref (gad g 0)]) ++ List.replicate (1 - (lg_sl ([.ref (gad g 0)])).length) Slot.unset).toArray = ls at hl ⊢
  exact k_cPageBoard_reset g ⟨B.exec, B.bytes, B.returns, hml, findClass_of_methodNamed B.named, atoms_spec (ws := wq_X10_reset) B.pre, B.notSynchronized, hK, fun q h => Or.inr h, hZ, cz_ok g⟩ st  _ _ ls ⟨hP, hD0.self, va_S.rf⟩ hl _ rfl
theorem vin_poke {x : Int32} (h0 : ¬ x < 0) (h : x < (16383 : Int32)) : ∃ j : Nat, j < 16383 ∧ x = nI j := by
  obtain ⟨j, hj, rfl⟩ := nI_of h0
  exact ⟨j, (nI_ltI hj (by decide)).mp (show nI j < nI 16383 from h), rfl⟩
theorem vin_poke0 {x : Int32} (h0 : ¬ x < 0) (h : x < (16383 : Int32)) : vp_in x 16384 := by
  obtain ⟨j, hj, rfl⟩ := vin_poke h0 h
  exact vp_in_nI (Nat.lt_of_lt_of_le hj (by decide)) (by decide)
theorem vin_poke1 {x : Int32} (h0 : ¬ x < 0) (h : x < (16383 : Int32)) : vp_in (x + (1 : Int32)) 16384 := by
  obtain ⟨j, hj, rfl⟩ := vin_poke h0 h
  rw [show nI j + (1 : Int32) = nI (j + 1) from nI_1 j]
  exact vp_in_nI (Nat.succ_lt_succ hj) (by decide)
abbrev wq_X10_poke : List Cond := .code yX10_poke cX10_poke 4 (some .boolean) :: wAll
theorem yd_yX10_poke : yX10_poke.cls = RX10 ∧ yX10_poke.cls ≠ "java/lang/invoke/MethodHandle" ∧ yX10_poke.cls ≠ "java/lang/invoke/VarHandle" ∧ (parseMethodDescriptor yX10_poke.desc).map (fun d => d.parameters.length) = some 3 := by decide +kernel
abbrev rm_cPageBoard_poke : Room := { frames := 0, cells := 0, slots := 0, locals := 0 }
def cPageBoard_poke_b20 (st : CS) (x1 : Int32) (x3 : Int32) : CS × Int32 := ((sA st 0 (upd (gA st 0) (x1 + (1 : Int32)).toNatClampNeg x3)), (1 : Int32))
set_option maxHeartbeats 4000000 in
set_option maxRecDepth 100000 in
theorem k_cPageBoard_poke_b20 {p : Program} {l : Launch} {e : Env} {s : State} {m : MethodId} {args : Array Value} {below : List Frame} {meth : Method} {c : Code} {A : Nat → Prop} (g : Gm) (C : cX p s m args meth c A cX10_poke (some .boolean) 4 RX10 wq_X10_poke (gD g) vwCl (cty g) (cz g)) (st : CS) (x1 : Int32) (x3 : Int32) (H : Heap) (locs : List Loc) (ls : Array Slot) (hI : cI (gD g) vwCl (cw g) A s st H locs) (hl : lv_has ls 4 [(0, .ref (gad g 0)), (1, .int x1), (3, .int x3)]) (hv : vp_in (x1 + (1 : Int32)) 16384) (X : CS × Int32) (hF : X = cPageBoard_poke_b20 st x1 x3) : W p l e rm_cPageBoard_poke s m args below meth c H locs 0 0 (MQ below (cQi (gD g) vwCl (cty g) (cw g) A X.1 X.2) args s 0 0 A) (F0 m 20 ls []) := by
  obtain ⟨hx, hb, hr, hml, hown, hts, hlocks, hK, hA, hZ, hzo⟩ := id C
  unfold cPageBoard_poke_b20 at hF
  refine lv_aload_n hx hb dX10_poke_20 rfl (lv_at hl 0 rfl) ?_
  refine va_get (D := gD g) (ci := 10) (C := RX10) (T := TX10) (N := 13) (v := .ref (gad g 1)) hx hb hts (fun w h => List.mem_cons_of_mem _ (isX100 w h)) hown hK hI.1 0 rfl rfl 0 (by decide) (hts _ (List.mem_cons_of_mem _ mw11)) (fun _ h9 => h9) rfl dX10_poke_21 ?_
  refine lv_iload_n hx hb dX10_poke_24 rfl (lv_at hl 1 rfl) ?_
  refine lv_iconst (v := (1 : Int32)) hx hb dX10_poke_25 (by decide) ?_
  refine lv_iadd hx hb dX10_poke_26 ?_
  refine lv_iload_n hx hb dX10_poke_27 rfl (lv_at hl 2 rfl) ?_
  refine va_iast (f := (gA st 0)) hx hb hK hI.1 hI.2.1 hI.2.2 1 0 rfl rfl hv dX10_poke_28 (fun H locs hP hD hS => ?_)
  have hI : cI (gD g) vwCl (cw g) A s (sA st 0 (upd (gA st 0) (x1 + (1 : Int32)).toNatClampNeg x3)) H locs := ⟨hP, hD, hS⟩
  refine lv_iconst (v := (1 : Int32)) hx hb dX10_poke_29 (by decide) ?_
  exact cx_zret C hI (congrArg Prod.fst hF) (congrArg Prod.snd hF) rfl dX10_poke_30
def cPageBoard_poke (st : CS) (x1 : Int32) (x2 : Int32) (x3 : Int32) : CS × Int32 := (if (x1 < 0) then (st, (0 : Int32)) else (if (x1 < (16383 : Int32)) then (cPageBoard_poke_b20 (sA st 0 (upd (gA st 0) x1.toNatClampNeg x2)) x1 x3) else (st, (0 : Int32))))
set_option maxHeartbeats 4000000 in
set_option maxRecDepth 100000 in
theorem k_cPageBoard_poke {p : Program} {l : Launch} {e : Env} {s : State} {m : MethodId} {args : Array Value} {below : List Frame} {meth : Method} {c : Code} {A : Nat → Prop} (g : Gm) (C : cX p s m args meth c A cX10_poke (some .boolean) 4 RX10 wq_X10_poke (gD g) vwCl (cty g) (cz g)) (st : CS) (x1 : Int32) (x2 : Int32) (x3 : Int32) (H : Heap) (locs : List Loc) (ls : Array Slot) (hI : cI (gD g) vwCl (cw g) A s st H locs) (hl : lv_has ls 4 [(0, .ref (gad g 0)), (1, .int x1), (2, .int x2), (3, .int x3)]) (X : CS × Int32) (hF : X = cPageBoard_poke st x1 x2 x3) : W p l e rm_cPageBoard_poke s m args below meth c H locs 0 0 (MQ below (cQi (gD g) vwCl (cty g) (cw g) A X.1 X.2) args s 0 0 A) (F0 m 0 ls []) := by
  obtain ⟨hx, hb, hr, hml, hown, hts, hlocks, hK, hA, hZ, hzo⟩ := id C
  unfold cPageBoard_poke at hF
  refine lv_iload_n hx hb dX10_poke_0 rfl (lv_at hl 1 rfl) ?_
  refine lv_if_lt (tgt := 11) hx hb dX10_poke_1 (by decide) (fun c_1 => ?_) (fun c_1 => ?_)
  · have hF := hF.trans (if_pos c_1)
    refine lv_iconst (v := (0 : Int32)) hx hb dX10_poke_11 (by decide) ?_
    exact cx_zret C hI (congrArg Prod.fst hF) (congrArg Prod.snd hF) rfl dX10_poke_12
  · have hF := hF.trans (if_neg c_1)
    refine lv_iload_n hx hb dX10_poke_4 rfl (lv_at hl 1 rfl) ?_
    refine lv_sipush (v := (16383 : Int32)) hx hb dX10_poke_5 (by decide) ?_
    refine lv_icmp_lt (tgt := 13) hx hb dX10_poke_8 (by decide) (fun c_8 => ?_) (fun c_8 => ?_)
    · have hF := hF.trans (if_pos c_8)
      refine lv_aload_n hx hb dX10_poke_13 rfl (lv_at hl 0 rfl) ?_
      refine va_get (D := gD g) (ci := 10) (C := RX10) (T := TX10) (N := 13) (v := .ref (gad g 1)) hx hb hts (fun w h => List.mem_cons_of_mem _ (isX100 w h)) hown hK hI.1 0 rfl rfl 0 (by decide) (hts _ (List.mem_cons_of_mem _ mw11)) (fun _ h9 => h9) rfl dX10_poke_14 ?_
      refine lv_iload_n hx hb dX10_poke_17 rfl (lv_at hl 1 rfl) ?_
      refine lv_iload_n hx hb dX10_poke_18 rfl (lv_at hl 2 rfl) ?_
      refine va_iast (f := (gA st 0)) hx hb hK hI.1 hI.2.1 hI.2.2 1 0 rfl rfl (vin_poke0 c_1 c_8) dX10_poke_19 (fun H locs hP hD hS => ?_)
      have hI : cI (gD g) vwCl (cw g) A s (sA st 0 (upd (gA st 0) x1.toNatClampNeg x2)) H locs := ⟨hP, hD, hS⟩
      exact k_cPageBoard_poke_b20 g C (sA st 0 (upd (gA st 0) x1.toNatClampNeg x2)) x1 x3 H locs ls hI (lv_sub hl [0, 1, 3] rfl) (vin_poke1 c_1 c_8) X hF
    · have hF := hF.trans (if_neg c_8)
      refine lv_iconst (v := (0 : Int32)) hx hb dX10_poke_11 (by decide) ?_
      exact cx_zret C hI (congrArg Prod.fst hF) (congrArg Prod.snd hF) rfl dX10_poke_12
set_option maxHeartbeats 4000000 in
set_option maxRecDepth 100000 in
theorem c_cPageBoard_poke (l : Launch) (g : Gm) (st : CS) (x1 : Int32) (x2 : Int32) (x3 : Int32) : Mi l yX10_poke wq_X10_poke rm_cPageBoard_poke (gD g) vwCl (cty g) (cw g) (cz g) [.ref (gad g 0), .int x1, .int x2, .int x3] st (cPageBoard_poke st x1 x2 x3).1 (cPageBoard_poke st x1 x2 x3).2 := by
  intro sz
  refine Met.ofW (cc := cX10_poke) (maxL := 4) (ret := (some .boolean)) (by decide) rfl ?_
  intro p e s m args below meth c s₁ B hml hv
  obtain ⟨rfl, hsz, hP, hK, hD0, hZ⟩ := hv
  subst hsz
  have hl := lv_entry ([.ref (gad g 0), .int x1, .int x2, .int x3]) (n := 4) (Nat.le_of_ble_eq_true rfl)
  rw [lg_entry_eq]
  generalize (lg_sl ([.ref (gad g 0), .int x1, .int x2, .int x3]) ++ List.replicate (4 - (lg_sl ([.ref (gad g 0), .int x1, .int x2, .int x3])).length) Slot.unset).toArray = ls at hl ⊢
  exact k_cPageBoard_poke g ⟨B.exec, B.bytes, B.returns, hml, findClass_of_methodNamed B.named, atoms_spec (ws := wq_X10_poke) B.pre, B.notSynchronized, hK, fun q h => Or.inr h, hZ, cz_ok g⟩ st x1 x2 x3 _ _ ls ⟨hP, hD0.self, va_S.rf⟩ hl _ rfl
abbrev wq_X10_store : List Cond := .code yX10_store cX10_store 4 (some .boolean) :: wAll
theorem yd_yX10_store : yX10_store.cls = RX10 ∧ yX10_store.cls ≠ "java/lang/invoke/MethodHandle" ∧ yX10_store.cls ≠ "java/lang/invoke/VarHandle" ∧ (parseMethodDescriptor yX10_store.desc).map (fun d => d.parameters.length) = some 3 := by decide +kernel
abbrev rm_cPageBoard_store : Room := { frames := 1, cells := 0, slots := 0, locals := 23 }
def cPageBoard_store (st : CS) (x1 : Int32) (x2 : Int32) (x3 : Int32) : CS × Int32 := (if ((cDisk_isWord x1 x2) = 0) then (st, (0 : Int32)) else ((cDisk_change st x1 x2 x3), (1 : Int32)))
set_option maxHeartbeats 4000000 in
set_option maxRecDepth 100000 in
theorem k_cPageBoard_store {p : Program} {l : Launch} {e : Env} {s : State} {m : MethodId} {args : Array Value} {below : List Frame} {meth : Method} {c : Code} {A : Nat → Prop} (g : Gm) (C : cX p s m args meth c A cX10_store (some .boolean) 4 RX10 wq_X10_store (gD g) vwCl (cty g) (cz g)) (st : CS) (x1 : Int32) (x2 : Int32) (x3 : Int32) (H : Heap) (locs : List Loc) (ls : Array Slot) (hI : cI (gD g) vwCl (cw g) A s st H locs) (hl : lv_has ls 4 [(0, .ref (gad g 0)), (1, .int x1), (2, .int x2), (3, .int x3)]) (X : CS × Int32) (hF : X = cPageBoard_store st x1 x2 x3) : W p l e rm_cPageBoard_store s m args below meth c H locs 0 0 (MQ below (cQi (gD g) vwCl (cty g) (cw g) A X.1 X.2) args s 0 0 A) (F0 m 0 ls []) := by
  obtain ⟨hx, hb, hr, hml, hown, hts, hlocks, hK, hA, hZ, hzo⟩ := id C
  unfold cPageBoard_store at hF
  refine lv_iload_n hx hb dX10_store_0 rfl (lv_at hl 1 rfl) ?_
  refine lv_iload_n hx hb dX10_store_1 rfl (lv_at hl 2 rfl) ?_
  refine cx_Si (As := [.int x1, .int x2]) (rest := []) C (c_cDisk_isWord l g st x1 x2) (va_cwS 2 hts (gd_S _ mw259 mw260 mw30 mw261) rfl rfl rfl yd_yX2_isWord ⟨Nat.le_of_ble_eq_true rfl, Nat.le_of_ble_eq_true rfl⟩) hI rfl hl.1 rfl (Nat.le_of_ble_eq_true rfl) dX10_store_2 (fun H locs hI => ?_)
  refine lv_if_ne (tgt := 10) hx hb dX10_store_5 (by decide) (fun c_5 => ?_) (fun c_5 => ?_)
  · have hF := hF.trans (if_neg c_5)
    refine lv_aload_n hx hb dX10_store_10 rfl (lv_at hl 0 rfl) ?_
    refine va_get (D := gD g) (ci := 10) (C := RX10) (T := TX10) (N := 13) (v := .ref (gad g 10)) hx hb hts (fun w h => List.mem_cons_of_mem _ (isX100 w h)) hown hK hI.1 0 rfl rfl 5 (by decide) (hts _ (List.mem_cons_of_mem _ mw31)) (fun _ h9 => h9) rfl dX10_store_11 ?_
    refine lv_iload_n hx hb dX10_store_14 rfl (lv_at hl 1 rfl) ?_
    refine lv_iload_n hx hb dX10_store_15 rfl (lv_at hl 2 rfl) ?_
    refine lv_iload_n hx hb dX10_store_16 rfl (lv_at hl 3 rfl) ?_
    refine cx_Vv (As := [.int x1, .int x2, .int x3]) (rest := []) C (c_cDisk_change l g st x1 x2 x3) (cwV 3 hts (gd_V _ mw262 mw263 mw264 mw30 mw265) rfl rfl rfl yd_yX2_change ⟨Nat.le_of_ble_eq_true rfl, Nat.le_of_ble_eq_true rfl⟩) (va_recv hK hI.1 (ci := 2) (q0 := 10) rfl rfl) hI rfl hl.1 rfl (Nat.le_of_ble_eq_true rfl) dX10_store_17 (fun H locs hI => ?_)
    refine lv_iconst (v := (1 : Int32)) hx hb dX10_store_20 (by decide) ?_
    exact cx_zret C hI (congrArg Prod.fst hF) (congrArg Prod.snd hF) rfl dX10_store_21
  · have hF := hF.trans (if_pos c_5)
    refine lv_iconst (v := (0 : Int32)) hx hb dX10_store_8 (by decide) ?_
    exact cx_zret C hI (congrArg Prod.fst hF) (congrArg Prod.snd hF) rfl dX10_store_9
set_option maxHeartbeats 4000000 in
set_option maxRecDepth 100000 in
theorem c_cPageBoard_store (l : Launch) (g : Gm) (st : CS) (x1 : Int32) (x2 : Int32) (x3 : Int32) : Mi l yX10_store wq_X10_store rm_cPageBoard_store (gD g) vwCl (cty g) (cw g) (cz g) [.ref (gad g 0), .int x1, .int x2, .int x3] st (cPageBoard_store st x1 x2 x3).1 (cPageBoard_store st x1 x2 x3).2 := by
  intro sz
  refine Met.ofW (cc := cX10_store) (maxL := 4) (ret := (some .boolean)) (by decide) rfl ?_
  intro p e s m args below meth c s₁ B hml hv
  obtain ⟨rfl, hsz, hP, hK, hD0, hZ⟩ := hv
  subst hsz
  have hl := lv_entry ([.ref (gad g 0), .int x1, .int x2, .int x3]) (n := 4) (Nat.le_of_ble_eq_true rfl)
  rw [lg_entry_eq]
  generalize (lg_sl ([.ref (gad g 0), .int x1, .int x2, .int x3]) ++ List.replicate (4 - (lg_sl ([.ref (gad g 0), .int x1, .int x2, .int x3])).length) Slot.unset).toArray = ls at hl ⊢
  exact k_cPageBoard_store g ⟨B.exec, B.bytes, B.returns, hml, findClass_of_methodNamed B.named, atoms_spec (ws := wq_X10_store) B.pre, B.notSynchronized, hK, fun q h => Or.inr h, hZ, cz_ok g⟩ st x1 x2 x3 _ _ ls ⟨hP, hD0.self, va_S.rf⟩ hl _ rfl
abbrev wq_X10_key : List Cond := .code yX10_key cX10_key 2 (some .boolean) :: wAll
theorem yd_yX10_key : yX10_key.cls = RX10 ∧ yX10_key.cls ≠ "java/lang/invoke/MethodHandle" ∧ yX10_key.cls ≠ "java/lang/invoke/VarHandle" ∧ (parseMethodDescriptor yX10_key.desc).map (fun d => d.parameters.length) = some 1 := by decide +kernel
abbrev rm_cPageBoard_key : Room := { frames := 1, cells := 0, slots := 0, locals := 21 }
def cPageBoard_key (st : CS) (x1 : Int32) : CS × Int32 := ((cSerial_receive st x1).1, (cSerial_receive st x1).2)
set_option maxHeartbeats 4000000 in
set_option maxRecDepth 100000 in
theorem k_cPageBoard_key {p : Program} {l : Launch} {e : Env} {s : State} {m : MethodId} {args : Array Value} {below : List Frame} {meth : Method} {c : Code} {A : Nat → Prop} (g : Gm) (C : cX p s m args meth c A cX10_key (some .boolean) 2 RX10 wq_X10_key (gD g) vwCl (cty g) (cz g)) (st : CS) (x1 : Int32) (H : Heap) (locs : List Loc) (ls : Array Slot) (hI : cI (gD g) vwCl (cw g) A s st H locs) (hl : lv_has ls 2 [(0, .ref (gad g 0)), (1, .int x1)]) (X : CS × Int32) (hF : X = cPageBoard_key st x1) : W p l e rm_cPageBoard_key s m args below meth c H locs 0 0 (MQ below (cQi (gD g) vwCl (cty g) (cw g) A X.1 X.2) args s 0 0 A) (F0 m 0 ls []) := by
  obtain ⟨hx, hb, hr, hml, hown, hts, hlocks, hK, hA, hZ, hzo⟩ := id C
  unfold cPageBoard_key at hF
  refine lv_aload_n hx hb dX10_key_0 rfl (lv_at hl 0 rfl) ?_
  refine va_get (D := gD g) (ci := 10) (C := RX10) (T := TX10) (N := 13) (v := .ref (gad g 8)) hx hb hts (fun w h => List.mem_cons_of_mem _ (isX100 w h)) hown hK hI.1 0 rfl rfl 4 (by decide) (hts _ (List.mem_cons_of_mem _ mw27)) (fun _ h9 => h9) rfl dX10_key_1 ?_
  refine lv_iload_n hx hb dX10_key_4 rfl (lv_at hl 1 rfl) ?_
  refine cx_Vi (As := [.int x1]) (rest := []) C (c_cSerial_receive l g st x1) (cwV 1 hts (gd_V _ mw285 mw286 mw287 mw26 mw288) rfl rfl rfl yd_yX8_receive ⟨Nat.le_of_ble_eq_true rfl, Nat.le_of_ble_eq_true rfl⟩) (va_recv hK hI.1 (ci := 8) (q0 := 8) rfl rfl) hI rfl hl.1 rfl (Nat.le_of_ble_eq_true rfl) dX10_key_5 (fun H locs hI => ?_)
  exact cx_zret C hI (congrArg Prod.fst hF) (congrArg Prod.snd hF) (nar_b (cSerial_receive_b _ _)) dX10_key_8
set_option maxHeartbeats 4000000 in
set_option maxRecDepth 100000 in
theorem c_cPageBoard_key (l : Launch) (g : Gm) (st : CS) (x1 : Int32) : Mi l yX10_key wq_X10_key rm_cPageBoard_key (gD g) vwCl (cty g) (cw g) (cz g) [.ref (gad g 0), .int x1] st (cPageBoard_key st x1).1 (cPageBoard_key st x1).2 := by
  intro sz
  refine Met.ofW (cc := cX10_key) (maxL := 2) (ret := (some .boolean)) (by decide) rfl ?_
  intro p e s m args below meth c s₁ B hml hv
  obtain ⟨rfl, hsz, hP, hK, hD0, hZ⟩ := hv
  subst hsz
  have hl := lv_entry ([.ref (gad g 0), .int x1]) (n := 2) (Nat.le_of_ble_eq_true rfl)
  rw [lg_entry_eq]
  generalize (lg_sl ([.ref (gad g 0), .int x1]) ++ List.replicate (2 - (lg_sl ([.ref (gad g 0), .int x1])).length) Slot.unset).toArray = ls at hl ⊢
  exact k_cPageBoard_key g ⟨B.exec, B.bytes, B.returns, hml, findClass_of_methodNamed B.named, atoms_spec (ws := wq_X10_key) B.pre, B.notSynchronized, hK, fun q h => Or.inr h, hZ, cz_ok g⟩ st x1 _ _ ls ⟨hP, hD0.self, va_S.rf⟩ hl _ rfl
abbrev wq_X10_stopAt : List Cond := .code yX10_stopAt cX10_stopAt 2 (some .boolean) :: wAll
theorem yd_yX10_stopAt : yX10_stopAt.cls = RX10 ∧ yX10_stopAt.cls ≠ "java/lang/invoke/MethodHandle" ∧ yX10_stopAt.cls ≠ "java/lang/invoke/VarHandle" ∧ (parseMethodDescriptor yX10_stopAt.desc).map (fun d => d.parameters.length) = some 1 := by decide +kernel
abbrev rm_cPageBoard_stopAt : Room := { frames := 0, cells := 0, slots := 0, locals := 0 }
def cPageBoard_stopAt (st : CS) (x1 : Int32) : CS × Int32 := (if (x1 = (-1 : Int32)) then ((sI st 0 (-1 : Int32)), (1 : Int32)) else (if (x1 < 0) then (st, (0 : Int32)) else (if (x1 < (67108864 : Int32)) then ((sI st 0 (x1 &&& (67108860 : Int32))), (1 : Int32)) else (st, (0 : Int32)))))
set_option maxHeartbeats 4000000 in
set_option maxRecDepth 100000 in
theorem k_cPageBoard_stopAt {p : Program} {l : Launch} {e : Env} {s : State} {m : MethodId} {args : Array Value} {below : List Frame} {meth : Method} {c : Code} {A : Nat → Prop} (g : Gm) (C : cX p s m args meth c A cX10_stopAt (some .boolean) 2 RX10 wq_X10_stopAt (gD g) vwCl (cty g) (cz g)) (st : CS) (x1 : Int32) (H : Heap) (locs : List Loc) (ls : Array Slot) (hI : cI (gD g) vwCl (cw g) A s st H locs) (hl : lv_has ls 2 [(0, .ref (gad g 0)), (1, .int x1)]) (X : CS × Int32) (hF : X = cPageBoard_stopAt st x1) : W p l e rm_cPageBoard_stopAt s m args below meth c H locs 0 0 (MQ below (cQi (gD g) vwCl (cty g) (cw g) A X.1 X.2) args s 0 0 A) (F0 m 0 ls []) := by
  obtain ⟨hx, hb, hr, hml, hown, hts, hlocks, hK, hA, hZ, hzo⟩ := id C
  unfold cPageBoard_stopAt at hF
  refine lv_iload_n hx hb dX10_stopAt_0 rfl (lv_at hl 1 rfl) ?_
  refine lv_iconst (v := (-1 : Int32)) hx hb dX10_stopAt_1 (by decide) ?_
  refine lv_icmp_ne (tgt := 12) hx hb dX10_stopAt_2 (by decide) (fun c_2 => ?_) (fun c_2 => ?_)
  · have hF := hF.trans (if_neg c_2)
    refine lv_iload_n hx hb dX10_stopAt_12 rfl (lv_at hl 1 rfl) ?_
    refine lv_if_lt (tgt := 22) hx hb dX10_stopAt_13 (by decide) (fun c_13 => ?_) (fun c_13 => ?_)
    · have hF := hF.trans (if_pos c_13)
      refine lv_iconst (v := (0 : Int32)) hx hb dX10_stopAt_22 (by decide) ?_
      exact cx_zret C hI (congrArg Prod.fst hF) (congrArg Prod.snd hF) rfl dX10_stopAt_23
    · have hF := hF.trans (if_neg c_13)
      refine lv_iload_n hx hb dX10_stopAt_16 rfl (lv_at hl 1 rfl) ?_
      refine lv_ldc (v := (67108864 : Int32)) hx hb hown (hts _ (List.mem_cons_of_mem _ mw952)) dX10_stopAt_17 ?_
      refine lv_icmp_lt (tgt := 24) hx hb dX10_stopAt_19 (by decide) (fun c_19 => ?_) (fun c_19 => ?_)
      · have hF := hF.trans (if_pos c_19)
        refine lv_aload_n hx hb dX10_stopAt_24 rfl (lv_at hl 0 rfl) ?_
        refine lv_iload_n hx hb dX10_stopAt_25 rfl (lv_at hl 1 rfl) ?_
        refine lv_ldc (v := (67108860 : Int32)) hx hb hown (hts _ (List.mem_cons_of_mem _ mw953)) dX10_stopAt_26 ?_
        refine lv_iand hx hb dX10_stopAt_28 ?_
        refine va_put (D := gD g) (ci := 10) (C := RX10) (T := TX10) (N := 13) (v := .int (x1 &&& (67108860 : Int32))) (ty := .int) hx hb hts (fun w h => List.mem_cons_of_mem _ (isX100 w h)) tyX10 tyX10_ok nmX10 hown hK hI.1 hI.2.1 hI.2.2 0 rfl rfl 10 (by decide) (hts _ (List.mem_cons_of_mem _ mw48)) (fun _ h9 => h9) rfl (by decide +kernel) rfl rfl (Nat.le_of_ble_eq_true rfl) dX10_stopAt_29 (fun H locs hP hD hS => ?_)
        have hI : cI (gD g) vwCl (cw g) A s (sI st 0 (x1 &&& (67108860 : Int32))) H locs := ⟨hP, hD, hS⟩
        refine lv_iconst (v := (1 : Int32)) hx hb dX10_stopAt_32 (by decide) ?_
        exact cx_zret C hI (congrArg Prod.fst hF) (congrArg Prod.snd hF) rfl dX10_stopAt_33
      · have hF := hF.trans (if_neg c_19)
        refine lv_iconst (v := (0 : Int32)) hx hb dX10_stopAt_22 (by decide) ?_
        exact cx_zret C hI (congrArg Prod.fst hF) (congrArg Prod.snd hF) rfl dX10_stopAt_23
  · have hF := hF.trans (if_pos c_2)
    refine lv_aload_n hx hb dX10_stopAt_5 rfl (lv_at hl 0 rfl) ?_
    refine lv_iconst (v := (-1 : Int32)) hx hb dX10_stopAt_6 (by decide) ?_
    refine va_put (D := gD g) (ci := 10) (C := RX10) (T := TX10) (N := 13) (v := .int (-1 : Int32)) (ty := .int) hx hb hts (fun w h => List.mem_cons_of_mem _ (isX100 w h)) tyX10 tyX10_ok nmX10 hown hK hI.1 hI.2.1 hI.2.2 0 rfl rfl 10 (by decide) (hts _ (List.mem_cons_of_mem _ mw48)) (fun _ h9 => h9) rfl (by decide +kernel) rfl rfl (Nat.le_of_ble_eq_true rfl) dX10_stopAt_7 (fun H locs hP hD hS => ?_)
    have hI : cI (gD g) vwCl (cw g) A s (sI st 0 (-1 : Int32)) H locs := ⟨hP, hD, hS⟩
    refine lv_iconst (v := (1 : Int32)) hx hb dX10_stopAt_10 (by decide) ?_
    exact cx_zret C hI (congrArg Prod.fst hF) (congrArg Prod.snd hF) rfl dX10_stopAt_11
set_option maxHeartbeats 4000000 in
set_option maxRecDepth 100000 in
theorem c_cPageBoard_stopAt (l : Launch) (g : Gm) (st : CS) (x1 : Int32) : Mi l yX10_stopAt wq_X10_stopAt rm_cPageBoard_stopAt (gD g) vwCl (cty g) (cw g) (cz g) [.ref (gad g 0), .int x1] st (cPageBoard_stopAt st x1).1 (cPageBoard_stopAt st x1).2 := by
  intro sz
  refine Met.ofW (cc := cX10_stopAt) (maxL := 2) (ret := (some .boolean)) (by decide) rfl ?_
  intro p e s m args below meth c s₁ B hml hv
  obtain ⟨rfl, hsz, hP, hK, hD0, hZ⟩ := hv
  subst hsz
  have hl := lv_entry ([.ref (gad g 0), .int x1]) (n := 2) (Nat.le_of_ble_eq_true rfl)
  rw [lg_entry_eq]
  generalize (lg_sl ([.ref (gad g 0), .int x1]) ++ List.replicate (2 - (lg_sl ([.ref (gad g 0), .int x1])).length) Slot.unset).toArray = ls at hl ⊢
  exact k_cPageBoard_stopAt g ⟨B.exec, B.bytes, B.returns, hml, findClass_of_methodNamed B.named, atoms_spec (ws := wq_X10_stopAt) B.pre, B.notSynchronized, hK, fun q h => Or.inr h, hZ, cz_ok g⟩ st x1 _ _ ls ⟨hP, hD0.self, va_S.rf⟩ hl _ rfl
abbrev wq_X10_put : List Cond := .code yX10_put cX10_put 4 (some .boolean) :: wAll
theorem yd_yX10_put : yX10_put.cls = RX10 ∧ yX10_put.cls ≠ "java/lang/invoke/MethodHandle" ∧ yX10_put.cls ≠ "java/lang/invoke/VarHandle" ∧ (parseMethodDescriptor yX10_put.desc).map (fun d => d.parameters.length) = some 3 := by decide +kernel
abbrev rm_cPageBoard_put : Room := { frames := 2, cells := 0, slots := 0, locals := 44 }
def cPageBoard_put (st : CS) (x1 : Int32) (x2 : Int32) (x3 : Int32) : CS × Int32 := (if ((cRegisters_isRegister x1 x2) = 0) then (st, (0 : Int32)) else ((cRegisters_become st x1 x2 x3), (1 : Int32)))
set_option maxHeartbeats 4000000 in
set_option maxRecDepth 100000 in
theorem k_cPageBoard_put {p : Program} {l : Launch} {e : Env} {s : State} {m : MethodId} {args : Array Value} {below : List Frame} {meth : Method} {c : Code} {A : Nat → Prop} (g : Gm) (C : cX p s m args meth c A cX10_put (some .boolean) 4 RX10 wq_X10_put (gD g) vwCl (cty g) (cz g)) (st : CS) (x1 : Int32) (x2 : Int32) (x3 : Int32) (H : Heap) (locs : List Loc) (ls : Array Slot) (hI : cI (gD g) vwCl (cw g) A s st H locs) (hl : lv_has ls 4 [(0, .ref (gad g 0)), (1, .int x1), (2, .int x2), (3, .int x3)]) (X : CS × Int32) (hF : X = cPageBoard_put st x1 x2 x3) : W p l e rm_cPageBoard_put s m args below meth c H locs 0 0 (MQ below (cQi (gD g) vwCl (cty g) (cw g) A X.1 X.2) args s 0 0 A) (F0 m 0 ls []) := by
  obtain ⟨hx, hb, hr, hml, hown, hts, hlocks, hK, hA, hZ, hzo⟩ := id C
  unfold cPageBoard_put at hF
  refine lv_iload_n hx hb dX10_put_0 rfl (lv_at hl 1 rfl) ?_
  refine lv_iload_n hx hb dX10_put_1 rfl (lv_at hl 2 rfl) ?_
  refine cx_Si (As := [.int x1, .int x2]) (rest := []) C (c_cRegisters_isRegister l g st x1 x2) (va_cwS 2 hts (gd_S _ mw961 mw962 mw14 mw963) rfl rfl rfl yd_yX6_isRegister ⟨Nat.le_of_ble_eq_true rfl, Nat.le_of_ble_eq_true rfl⟩) hI rfl hl.1 rfl (Nat.le_of_ble_eq_true rfl) dX10_put_2 (fun H locs hI => ?_)
  refine lv_if_ne (tgt := 10) hx hb dX10_put_5 (by decide) (fun c_5 => ?_) (fun c_5 => ?_)
  · have hF := hF.trans (if_neg c_5)
    refine lv_aload_n hx hb dX10_put_10 rfl (lv_at hl 0 rfl) ?_
    refine va_get (D := gD g) (ci := 10) (C := RX10) (T := TX10) (N := 13) (v := .ref (gad g 2)) hx hb hts (fun w h => List.mem_cons_of_mem _ (isX100 w h)) hown hK hI.1 0 rfl rfl 1 (by decide) (hts _ (List.mem_cons_of_mem _ mw15)) (fun _ h9 => h9) rfl dX10_put_11 ?_
    refine lv_iload_n hx hb dX10_put_14 rfl (lv_at hl 1 rfl) ?_
    refine lv_iload_n hx hb dX10_put_15 rfl (lv_at hl 2 rfl) ?_
    refine lv_iload_n hx hb dX10_put_16 rfl (lv_at hl 3 rfl) ?_
    refine cx_Vv (As := [.int x1, .int x2, .int x3]) (rest := []) C (c_cRegisters_become l g st x1 x2 x3) (cwV 3 hts (gd_V _ mw974 mw417 mw418 mw14 mw419) rfl rfl rfl yd_yX6_become ⟨Nat.le_of_ble_eq_true rfl, Nat.le_of_ble_eq_true rfl⟩) (va_recv hK hI.1 (ci := 6) (q0 := 2) rfl rfl) hI rfl hl.1 rfl (Nat.le_of_ble_eq_true rfl) dX10_put_17 (fun H locs hI => ?_)
    refine lv_iconst (v := (1 : Int32)) hx hb dX10_put_20 (by decide) ?_
    exact cx_zret C hI (congrArg Prod.fst hF) (congrArg Prod.snd hF) rfl dX10_put_21
  · have hF := hF.trans (if_pos c_5)
    refine lv_iconst (v := (0 : Int32)) hx hb dX10_put_8 (by decide) ?_
    exact cx_zret C hI (congrArg Prod.fst hF) (congrArg Prod.snd hF) rfl dX10_put_9
set_option maxHeartbeats 4000000 in
set_option maxRecDepth 100000 in
theorem c_cPageBoard_put (l : Launch) (g : Gm) (st : CS) (x1 : Int32) (x2 : Int32) (x3 : Int32) : Mi l yX10_put wq_X10_put rm_cPageBoard_put (gD g) vwCl (cty g) (cw g) (cz g) [.ref (gad g 0), .int x1, .int x2, .int x3] st (cPageBoard_put st x1 x2 x3).1 (cPageBoard_put st x1 x2 x3).2 := by
  intro sz
  refine Met.ofW (cc := cX10_put) (maxL := 4) (ret := (some .boolean)) (by decide) rfl ?_
  intro p e s m args below meth c s₁ B hml hv
  obtain ⟨rfl, hsz, hP, hK, hD0, hZ⟩ := hv
  subst hsz
  have hl := lv_entry ([.ref (gad g 0), .int x1, .int x2, .int x3]) (n := 4) (Nat.le_of_ble_eq_true rfl)
  rw [lg_entry_eq]
  generalize (lg_sl ([.ref (gad g 0), .int x1, .int x2, .int x3]) ++ List.replicate (4 - (lg_sl ([.ref (gad g 0), .int x1, .int x2, .int x3])).length) Slot.unset).toArray = ls at hl ⊢
  exact k_cPageBoard_put g ⟨B.exec, B.bytes, B.returns, hml, findClass_of_methodNamed B.named, atoms_spec (ws := wq_X10_put) B.pre, B.notSynchronized, hK, fun q h => Or.inr h, hZ, cz_ok g⟩ st x1 x2 x3 _ _ ls ⟨hP, hD0.self, va_S.rf⟩ hl _ rfl
abbrev wq_X10_entry : List Cond := .code yX10_entry cX10_entry 3 (some .int) :: wAll
theorem yd_yX10_entry : yX10_entry.cls = RX10 ∧ yX10_entry.cls ≠ "java/lang/invoke/MethodHandle" ∧ yX10_entry.cls ≠ "java/lang/invoke/VarHandle" ∧ (parseMethodDescriptor yX10_entry.desc).map (fun d => d.parameters.length) = some 2 := by decide +kernel
abbrev rm_cPageBoard_entry : Room := { frames := 1, cells := 0, slots := 0, locals := 21 }
def cPageBoard_entry (st : CS) (x1 : Int32) (x2 : Int32) : Int32 := (if (x1 < 0) then (-1 : Int32) else (if (x1 < (16 : Int32)) then (if x2 = (0 : Int32) then (cEntries_numberOf st x1) else (if x2 = (1 : Int32) then (cEntries_levelOf st x1) else (-1 : Int32))) else (-1 : Int32)))
set_option maxHeartbeats 4000000 in
set_option maxRecDepth 100000 in
theorem k_cPageBoard_entry {p : Program} {l : Launch} {e : Env} {s : State} {m : MethodId} {args : Array Value} {below : List Frame} {meth : Method} {c : Code} {A : Nat → Prop} (g : Gm) (C : cX p s m args meth c A cX10_entry (some .int) 3 RX10 wq_X10_entry (gD g) vwCl (cty g) (cz g)) (st : CS) (x1 : Int32) (x2 : Int32) (H : Heap) (locs : List Loc) (ls : Array Slot) (hI : cI (gD g) vwCl (cw g) A s st H locs) (hl : lv_has ls 3 [(0, .ref (gad g 0)), (1, .int x1), (2, .int x2)]) (X : Int32) (hF : X = cPageBoard_entry st x1 x2) : W p l e rm_cPageBoard_entry s m args below meth c H locs 0 0 (MQ below (cQi (gD g) vwCl (cty g) (cw g) A st X) args s 0 0 A) (F0 m 0 ls []) := by
  obtain ⟨hx, hb, hr, hml, hown, hts, hlocks, hK, hA, hZ, hzo⟩ := id C
  unfold cPageBoard_entry at hF
  refine lv_iload_n hx hb dX10_entry_0 rfl (lv_at hl 1 rfl) ?_
  refine lv_if_lt (tgt := 10) hx hb dX10_entry_1 (by decide) (fun c_1 => ?_) (fun c_1 => ?_)
  · have hF := hF.trans (if_pos c_1)
    refine lv_iconst (v := (-1 : Int32)) hx hb dX10_entry_10 (by decide) ?_
    exact cx_iret C hI rfl hF dX10_entry_11
  · have hF := hF.trans (if_neg c_1)
    refine lv_iload_n hx hb dX10_entry_4 rfl (lv_at hl 1 rfl) ?_
    refine lv_bipush (v := (16 : Int32)) hx hb dX10_entry_5 (by decide) ?_
    refine lv_icmp_lt (tgt := 12) hx hb dX10_entry_7 (by decide) (fun c_7 => ?_) (fun c_7 => ?_)
    · have hF := hF.trans (if_pos c_7)
      refine lv_iload_n hx hb dX10_entry_12 rfl (lv_at hl 2 rfl) ?_
      by_cases c_13_0 : x2 = (0 : Int32)
      · have hF := hF.trans (if_pos c_13_0)
        refine lv_lookup (off := 27) (tgt := 40) hx hb dX10_entry_13 (by decide) (by rw [c_13_0]; rfl) (by decide) ?_
        refine lv_aload_n hx hb dX10_entry_40 rfl (lv_at hl 0 rfl) ?_
        refine va_get (D := gD g) (ci := 10) (C := RX10) (T := TX10) (N := 13) (v := .ref (gad g 4)) hx hb hts (fun w h => List.mem_cons_of_mem _ (isX100 w h)) hown hK hI.1 0 rfl rfl 2 (by decide) (hts _ (List.mem_cons_of_mem _ mw19)) (fun _ h9 => h9) rfl dX10_entry_41 ?_
        refine lv_iload_n hx hb dX10_entry_44 rfl (lv_at hl 1 rfl) ?_
        refine cx_Vi (As := [.int x1]) (rest := []) C (c_cEntries_numberOf l g st x1) (cwV 1 hts (gd_V _ mw981 mw982 mw983 mw18 mw984) rfl rfl rfl yd_yX3_numberOf ⟨Nat.le_of_ble_eq_true rfl, Nat.le_of_ble_eq_true rfl⟩) (va_recv hK hI.1 (ci := 3) (q0 := 4) rfl rfl) hI rfl hl.1 rfl (Nat.le_of_ble_eq_true rfl) dX10_entry_45 (fun H locs hI => ?_)
        exact cx_iret C hI rfl hF dX10_entry_48
      · have hF := hF.trans (if_neg c_13_0)
        by_cases c_13_1 : x2 = (1 : Int32)
        · have hF := hF.trans (if_pos c_13_1)
          refine lv_lookup (off := 36) (tgt := 49) hx hb dX10_entry_13 (by decide) (by rw [c_13_1]; rfl) (by decide) ?_
          refine lv_aload_n hx hb dX10_entry_49 rfl (lv_at hl 0 rfl) ?_
          refine va_get (D := gD g) (ci := 10) (C := RX10) (T := TX10) (N := 13) (v := .ref (gad g 4)) hx hb hts (fun w h => List.mem_cons_of_mem _ (isX100 w h)) hown hK hI.1 0 rfl rfl 2 (by decide) (hts _ (List.mem_cons_of_mem _ mw19)) (fun _ h9 => h9) rfl dX10_entry_50 ?_
          refine lv_iload_n hx hb dX10_entry_53 rfl (lv_at hl 1 rfl) ?_
          refine cx_Vi (As := [.int x1]) (rest := []) C (c_cEntries_levelOf l g st x1) (cwV 1 hts (gd_V _ mw985 mw986 mw987 mw18 mw988) rfl rfl rfl yd_yX3_levelOf ⟨Nat.le_of_ble_eq_true rfl, Nat.le_of_ble_eq_true rfl⟩) (va_recv hK hI.1 (ci := 3) (q0 := 4) rfl rfl) hI rfl hl.1 rfl (Nat.le_of_ble_eq_true rfl) dX10_entry_54 (fun H locs hI => ?_)
          exact cx_iret C hI rfl hF dX10_entry_57
        · have hF := hF.trans (if_neg c_13_1)
          refine lv_lookup (off := 45) (tgt := 58) hx hb dX10_entry_13 (by decide) (by show Op.lookupswitch.offset [(0, 27), (1, 36)] 45 _ = _; rw [lv_osw c_13_0 (by decide), lv_osw c_13_1 (by decide)]; rfl) (by decide) ?_
          refine lv_iconst (v := (-1 : Int32)) hx hb dX10_entry_58 (by decide) ?_
          exact cx_iret C hI rfl hF dX10_entry_59
    · have hF := hF.trans (if_neg c_7)
      refine lv_iconst (v := (-1 : Int32)) hx hb dX10_entry_10 (by decide) ?_
      exact cx_iret C hI rfl hF dX10_entry_11
set_option maxHeartbeats 4000000 in
set_option maxRecDepth 100000 in
theorem c_cPageBoard_entry (l : Launch) (g : Gm) (st : CS) (x1 : Int32) (x2 : Int32) : Mi l yX10_entry wq_X10_entry rm_cPageBoard_entry (gD g) vwCl (cty g) (cw g) (cz g) [.ref (gad g 0), .int x1, .int x2] st st (cPageBoard_entry st x1 x2) := by
  intro sz
  refine Met.ofW (cc := cX10_entry) (maxL := 3) (ret := (some .int)) (by decide) rfl ?_
  intro p e s m args below meth c s₁ B hml hv
  obtain ⟨rfl, hsz, hP, hK, hD0, hZ⟩ := hv
  subst hsz
  have hl := lv_entry ([.ref (gad g 0), .int x1, .int x2]) (n := 3) (Nat.le_of_ble_eq_true rfl)
  rw [lg_entry_eq]
  generalize (lg_sl ([.ref (gad g 0), .int x1, .int x2]) ++ List.replicate (3 - (lg_sl ([.ref (gad g 0), .int x1, .int x2])).length) Slot.unset).toArray = ls at hl ⊢
  exact k_cPageBoard_entry g ⟨B.exec, B.bytes, B.returns, hml, findClass_of_methodNamed B.named, atoms_spec (ws := wq_X10_entry) B.pre, B.notSynchronized, hK, fun q h => Or.inr h, hZ, cz_ok g⟩ st x1 x2 _ _ ls ⟨hP, hD0.self, va_S.rf⟩ hl _ rfl
abbrev wq_X10_device : List Cond := .code yX10_device cX10_device 2 (some .int) :: wAll
theorem yd_yX10_device : yX10_device.cls = RX10 ∧ yX10_device.cls ≠ "java/lang/invoke/MethodHandle" ∧ yX10_device.cls ≠ "java/lang/invoke/VarHandle" ∧ (parseMethodDescriptor yX10_device.desc).map (fun d => d.parameters.length) = some 1 := by decide +kernel
abbrev rm_cPageBoard_device : Room := { frames := 2, cells := 0, slots := 0, locals := 42 }
def cPageBoard_device (st : CS) (x1 : Int32) : Int32 := (if (x1 < 0) then (-1 : Int32) else (if (x1 < (1048576 : Int32)) then (cBus_deviceWord st x1) else (-1 : Int32)))
set_option maxHeartbeats 4000000 in
set_option maxRecDepth 100000 in
theorem k_cPageBoard_device {p : Program} {l : Launch} {e : Env} {s : State} {m : MethodId} {args : Array Value} {below : List Frame} {meth : Method} {c : Code} {A : Nat → Prop} (g : Gm) (C : cX p s m args meth c A cX10_device (some .int) 2 RX10 wq_X10_device (gD g) vwCl (cty g) (cz g)) (st : CS) (x1 : Int32) (H : Heap) (locs : List Loc) (ls : Array Slot) (hI : cI (gD g) vwCl (cw g) A s st H locs) (hl : lv_has ls 2 [(0, .ref (gad g 0)), (1, .int x1)]) (X : Int32) (hF : X = cPageBoard_device st x1) : W p l e rm_cPageBoard_device s m args below meth c H locs 0 0 (MQ below (cQi (gD g) vwCl (cty g) (cw g) A st X) args s 0 0 A) (F0 m 0 ls []) := by
  obtain ⟨hx, hb, hr, hml, hown, hts, hlocks, hK, hA, hZ, hzo⟩ := id C
  unfold cPageBoard_device at hF
  refine lv_iload_n hx hb dX10_device_0 rfl (lv_at hl 1 rfl) ?_
  refine lv_if_lt (tgt := 10) hx hb dX10_device_1 (by decide) (fun c_1 => ?_) (fun c_1 => ?_)
  · have hF := hF.trans (if_pos c_1)
    refine lv_iconst (v := (-1 : Int32)) hx hb dX10_device_10 (by decide) ?_
    exact cx_iret C hI rfl hF dX10_device_11
  · have hF := hF.trans (if_neg c_1)
    refine lv_iload_n hx hb dX10_device_4 rfl (lv_at hl 1 rfl) ?_
    refine lv_ldc (v := (1048576 : Int32)) hx hb hown (hts _ (List.mem_cons_of_mem _ mw995)) dX10_device_5 ?_
    refine lv_icmp_lt (tgt := 12) hx hb dX10_device_7 (by decide) (fun c_7 => ?_) (fun c_7 => ?_)
    · have hF := hF.trans (if_pos c_7)
      refine lv_aload_n hx hb dX10_device_12 rfl (lv_at hl 0 rfl) ?_
      refine va_get (D := gD g) (ci := 10) (C := RX10) (T := TX10) (N := 13) (v := .ref (gad g 18)) hx hb hts (fun w h => List.mem_cons_of_mem _ (isX100 w h)) hown hK hI.1 0 rfl rfl 8 (by decide) (hts _ (List.mem_cons_of_mem _ mw43)) (fun _ h9 => h9) rfl dX10_device_13 ?_
      refine lv_iload_n hx hb dX10_device_16 rfl (lv_at hl 1 rfl) ?_
      refine cx_Vi (As := [.int x1]) (rest := []) C (c_cBus_deviceWord l g st x1) (cwV 1 hts (gd_V _ mw996 mw537 mw538 mw42 mw539) rfl rfl rfl yd_yX0_deviceWord ⟨Nat.le_of_ble_eq_true rfl, Nat.le_of_ble_eq_true rfl⟩) (va_recv hK hI.1 (ci := 0) (q0 := 18) rfl rfl) hI rfl hl.1 rfl (Nat.le_of_ble_eq_true rfl) dX10_device_17 (fun H locs hI => ?_)
      exact cx_iret C hI rfl hF dX10_device_20
    · have hF := hF.trans (if_neg c_7)
      refine lv_iconst (v := (-1 : Int32)) hx hb dX10_device_10 (by decide) ?_
      exact cx_iret C hI rfl hF dX10_device_11
set_option maxHeartbeats 4000000 in
set_option maxRecDepth 100000 in
theorem c_cPageBoard_device (l : Launch) (g : Gm) (st : CS) (x1 : Int32) : Mi l yX10_device wq_X10_device rm_cPageBoard_device (gD g) vwCl (cty g) (cw g) (cz g) [.ref (gad g 0), .int x1] st st (cPageBoard_device st x1) := by
  intro sz
  refine Met.ofW (cc := cX10_device) (maxL := 2) (ret := (some .int)) (by decide) rfl ?_
  intro p e s m args below meth c s₁ B hml hv
  obtain ⟨rfl, hsz, hP, hK, hD0, hZ⟩ := hv
  subst hsz
  have hl := lv_entry ([.ref (gad g 0), .int x1]) (n := 2) (Nat.le_of_ble_eq_true rfl)
  rw [lg_entry_eq]
  generalize (lg_sl ([.ref (gad g 0), .int x1]) ++ List.replicate (2 - (lg_sl ([.ref (gad g 0), .int x1])).length) Slot.unset).toArray = ls at hl ⊢
  exact k_cPageBoard_device g ⟨B.exec, B.bytes, B.returns, hml, findClass_of_methodNamed B.named, atoms_spec (ws := wq_X10_device) B.pre, B.notSynchronized, hK, fun q h => Or.inr h, hZ, cz_ok g⟩ st x1 _ _ ls ⟨hP, hD0.self, va_S.rf⟩ hl _ rfl
abbrev wq_X10_allowed : List Cond := .code yX10_allowed cX10_allowed 4 (some .int) :: wAll
theorem yd_yX10_allowed : yX10_allowed.cls = RX10 ∧ yX10_allowed.cls ≠ "java/lang/invoke/MethodHandle" ∧ yX10_allowed.cls ≠ "java/lang/invoke/VarHandle" ∧ (parseMethodDescriptor yX10_allowed.desc).map (fun d => d.parameters.length) = some 3 := by decide +kernel
abbrev rm_cPageBoard_allowed : Room := { frames := 2, cells := 0, slots := 0, locals := 46 }
def cPageBoard_allowed_b48 (st : CS) (y2 : Int32) (y1 : Int32) (y0 : Int32) : Int32 := (if ((cBus_find st y2 y1 y0) = (-1 : Int32)) then (0 : Int32) else (1 : Int32))
set_option maxHeartbeats 4000000 in
set_option maxRecDepth 100000 in
theorem k_cPageBoard_allowed_b48 {p : Program} {l : Launch} {e : Env} {s : State} {m : MethodId} {args : Array Value} {below : List Frame} {meth : Method} {c : Code} {A : Nat → Prop} (g : Gm) (C : cX p s m args meth c A cX10_allowed (some .int) 4 RX10 wq_X10_allowed (gD g) vwCl (cty g) (cz g)) (st : CS) (y2 : Int32) (y1 : Int32) (y0 : Int32) (H : Heap) (locs : List Loc) (ls : Array Slot) (hI : cI (gD g) vwCl (cw g) A s st H locs) (hl : lv_has ls 4 [(0, .ref (gad g 0))]) (X : Int32) (hF : X = cPageBoard_allowed_b48 st y2 y1 y0) : W p l e rm_cPageBoard_allowed s m args below meth c H locs 0 0 (MQ below (cQi (gD g) vwCl (cty g) (cw g) A st X) args s 0 0 A) (F0 m 48 ls [.int y0, .int y1, .int y2, .ref (gad g 18)]) := by
  obtain ⟨hx, hb, hr, hml, hown, hts, hlocks, hK, hA, hZ, hzo⟩ := id C
  unfold cPageBoard_allowed_b48 at hF
  refine cx_Vi (As := [.int y2, .int y1, .int y0]) (rest := []) C (c_cBus_find l g st y2 y1 y0) (cwV 3 hts (gd_V _ mw1003 mw334 mw335 mw42 mw336) rfl rfl rfl yd_yX0_find ⟨Nat.le_of_ble_eq_true rfl, Nat.le_of_ble_eq_true rfl⟩) (va_recv hK hI.1 (ci := 0) (q0 := 18) rfl rfl) hI rfl hl.1 rfl (Nat.le_of_ble_eq_true rfl) dX10_allowed_48 (fun H locs hI => ?_)
  refine lv_iconst (v := (-1 : Int32)) hx hb dX10_allowed_51 (by decide) ?_
  refine lv_icmp_ne (tgt := 59) hx hb dX10_allowed_52 (by decide) (fun c_52 => ?_) (fun c_52 => ?_)
  · have hF := hF.trans (if_neg c_52)
    refine lv_iconst (v := (1 : Int32)) hx hb dX10_allowed_59 (by decide) ?_
    exact cx_iret C hI rfl hF dX10_allowed_60
  · have hF := hF.trans (if_pos c_52)
    refine lv_iconst (v := (0 : Int32)) hx hb dX10_allowed_55 (by decide) ?_
    refine lv_goto (tgt := 60) hx hb dX10_allowed_56 (by decide) ?_
    exact cx_iret C hI rfl hF dX10_allowed_60
def cPageBoard_allowed (st : CS) (x1 : Int32) (x2 : Int32) (x3 : Int32) : Int32 := (if (x1 < 0) then (-1 : Int32) else (if ((3 : Int32) < x1) then (-1 : Int32) else (if (x3 < 0) then (-1 : Int32) else (if (x3 ≤ (1 : Int32)) then (if (x2 < 0) then (-1 : Int32) else (if (x2 < (67108864 : Int32)) then (if (x3 = (1 : Int32)) then (cPageBoard_allowed_b48 st x1 x2 (1 : Int32)) else (cPageBoard_allowed_b48 st x1 x2 (0 : Int32))) else (-1 : Int32))) else (-1 : Int32)))))
set_option maxHeartbeats 4000000 in
set_option maxRecDepth 100000 in
theorem k_cPageBoard_allowed {p : Program} {l : Launch} {e : Env} {s : State} {m : MethodId} {args : Array Value} {below : List Frame} {meth : Method} {c : Code} {A : Nat → Prop} (g : Gm) (C : cX p s m args meth c A cX10_allowed (some .int) 4 RX10 wq_X10_allowed (gD g) vwCl (cty g) (cz g)) (st : CS) (x1 : Int32) (x2 : Int32) (x3 : Int32) (H : Heap) (locs : List Loc) (ls : Array Slot) (hI : cI (gD g) vwCl (cw g) A s st H locs) (hl : lv_has ls 4 [(0, .ref (gad g 0)), (1, .int x1), (2, .int x2), (3, .int x3)]) (X : Int32) (hF : X = cPageBoard_allowed st x1 x2 x3) : W p l e rm_cPageBoard_allowed s m args below meth c H locs 0 0 (MQ below (cQi (gD g) vwCl (cty g) (cw g) A st X) args s 0 0 A) (F0 m 0 ls []) := by
  obtain ⟨hx, hb, hr, hml, hown, hts, hlocks, hK, hA, hZ, hzo⟩ := id C
  unfold cPageBoard_allowed at hF
  refine lv_iload_n hx hb dX10_allowed_0 rfl (lv_at hl 1 rfl) ?_
  refine lv_if_lt (tgt := 18) hx hb dX10_allowed_1 (by decide) (fun c_1 => ?_) (fun c_1 => ?_)
  · have hF := hF.trans (if_pos c_1)
    refine lv_iconst (v := (-1 : Int32)) hx hb dX10_allowed_18 (by decide) ?_
    exact cx_iret C hI rfl hF dX10_allowed_19
  · have hF := hF.trans (if_neg c_1)
    refine lv_iload_n hx hb dX10_allowed_4 rfl (lv_at hl 1 rfl) ?_
    refine lv_iconst (v := (3 : Int32)) hx hb dX10_allowed_5 (by decide) ?_
    refine lv_icmp_gt (tgt := 18) hx hb dX10_allowed_6 (by decide) (fun c_6 => ?_) (fun c_6 => ?_)
    · have hF := hF.trans (if_pos c_6)
      refine lv_iconst (v := (-1 : Int32)) hx hb dX10_allowed_18 (by decide) ?_
      exact cx_iret C hI rfl hF dX10_allowed_19
    · have hF := hF.trans (if_neg c_6)
      refine lv_iload_n hx hb dX10_allowed_9 rfl (lv_at hl 3 rfl) ?_
      refine lv_if_lt (tgt := 18) hx hb dX10_allowed_10 (by decide) (fun c_10 => ?_) (fun c_10 => ?_)
      · have hF := hF.trans (if_pos c_10)
        refine lv_iconst (v := (-1 : Int32)) hx hb dX10_allowed_18 (by decide) ?_
        exact cx_iret C hI rfl hF dX10_allowed_19
      · have hF := hF.trans (if_neg c_10)
        refine lv_iload_n hx hb dX10_allowed_13 rfl (lv_at hl 3 rfl) ?_
        refine lv_iconst (v := (1 : Int32)) hx hb dX10_allowed_14 (by decide) ?_
        refine lv_icmp_le (tgt := 20) hx hb dX10_allowed_15 (by decide) (fun c_15 => ?_) (fun c_15 => ?_)
        · have hF := hF.trans (if_pos c_15)
          refine lv_iload_n hx hb dX10_allowed_20 rfl (lv_at hl 2 rfl) ?_
          refine lv_if_lt (tgt := 30) hx hb dX10_allowed_21 (by decide) (fun c_21 => ?_) (fun c_21 => ?_)
          · have hF := hF.trans (if_pos c_21)
            refine lv_iconst (v := (-1 : Int32)) hx hb dX10_allowed_30 (by decide) ?_
            exact cx_iret C hI rfl hF dX10_allowed_31
          · have hF := hF.trans (if_neg c_21)
            refine lv_iload_n hx hb dX10_allowed_24 rfl (lv_at hl 2 rfl) ?_
            refine lv_ldc (v := (67108864 : Int32)) hx hb hown (hts _ (List.mem_cons_of_mem _ mw952)) dX10_allowed_25 ?_
            refine lv_icmp_lt (tgt := 32) hx hb dX10_allowed_27 (by decide) (fun c_27 => ?_) (fun c_27 => ?_)
            · have hF := hF.trans (if_pos c_27)
              refine lv_aload_n hx hb dX10_allowed_32 rfl (lv_at hl 0 rfl) ?_
              refine va_get (D := gD g) (ci := 10) (C := RX10) (T := TX10) (N := 13) (v := .ref (gad g 18)) hx hb hts (fun w h => List.mem_cons_of_mem _ (isX100 w h)) hown hK hI.1 0 rfl rfl 8 (by decide) (hts _ (List.mem_cons_of_mem _ mw43)) (fun _ h9 => h9) rfl dX10_allowed_33 ?_
              refine lv_iload_n hx hb dX10_allowed_36 rfl (lv_at hl 1 rfl) ?_
              refine lv_iload_n hx hb dX10_allowed_37 rfl (lv_at hl 2 rfl) ?_
              refine lv_iload_n hx hb dX10_allowed_38 rfl (lv_at hl 3 rfl) ?_
              refine lv_iconst (v := (1 : Int32)) hx hb dX10_allowed_39 (by decide) ?_
              refine lv_icmp_ne (tgt := 47) hx hb dX10_allowed_40 (by decide) (fun c_40 => ?_) (fun c_40 => ?_)
              · have hF := hF.trans (if_neg c_40)
                refine lv_iconst (v := (0 : Int32)) hx hb dX10_allowed_47 (by decide) ?_
                exact k_cPageBoard_allowed_b48 g C st x1 x2 (0 : Int32) H locs ls hI (lv_sub hl [0] rfl) X hF
              · have hF := hF.trans (if_pos c_40)
                refine lv_iconst (v := (1 : Int32)) hx hb dX10_allowed_43 (by decide) ?_
                refine lv_goto (tgt := 48) hx hb dX10_allowed_44 (by decide) ?_
                exact k_cPageBoard_allowed_b48 g C st x1 x2 (1 : Int32) H locs ls hI (lv_sub hl [0] rfl) X hF
            · have hF := hF.trans (if_neg c_27)
              refine lv_iconst (v := (-1 : Int32)) hx hb dX10_allowed_30 (by decide) ?_
              exact cx_iret C hI rfl hF dX10_allowed_31
        · have hF := hF.trans (if_neg c_15)
          refine lv_iconst (v := (-1 : Int32)) hx hb dX10_allowed_18 (by decide) ?_
          exact cx_iret C hI rfl hF dX10_allowed_19
set_option maxHeartbeats 4000000 in
set_option maxRecDepth 100000 in
theorem c_cPageBoard_allowed (l : Launch) (g : Gm) (st : CS) (x1 : Int32) (x2 : Int32) (x3 : Int32) : Mi l yX10_allowed wq_X10_allowed rm_cPageBoard_allowed (gD g) vwCl (cty g) (cw g) (cz g) [.ref (gad g 0), .int x1, .int x2, .int x3] st st (cPageBoard_allowed st x1 x2 x3) := by
  intro sz
  refine Met.ofW (cc := cX10_allowed) (maxL := 4) (ret := (some .int)) (by decide) rfl ?_
  intro p e s m args below meth c s₁ B hml hv
  obtain ⟨rfl, hsz, hP, hK, hD0, hZ⟩ := hv
  subst hsz
  have hl := lv_entry ([.ref (gad g 0), .int x1, .int x2, .int x3]) (n := 4) (Nat.le_of_ble_eq_true rfl)
  rw [lg_entry_eq]
  generalize (lg_sl ([.ref (gad g 0), .int x1, .int x2, .int x3]) ++ List.replicate (4 - (lg_sl ([.ref (gad g 0), .int x1, .int x2, .int x3])).length) Slot.unset).toArray = ls at hl ⊢
  exact k_cPageBoard_allowed g ⟨B.exec, B.bytes, B.returns, hml, findClass_of_methodNamed B.named, atoms_spec (ws := wq_X10_allowed) B.pre, B.notSynchronized, hK, fun q h => Or.inr h, hZ, cz_ok g⟩ st x1 x2 x3 _ _ ls ⟨hP, hD0.self, va_S.rf⟩ hl _ rfl
abbrev wq_X10_count : List Cond := .code yX10_count cX10_count 2 (some .long) :: wAll
theorem yd_yX10_count : yX10_count.cls = RX10 ∧ yX10_count.cls ≠ "java/lang/invoke/MethodHandle" ∧ yX10_count.cls ≠ "java/lang/invoke/VarHandle" ∧ (parseMethodDescriptor yX10_count.desc).map (fun d => d.parameters.length) = some 1 := by decide +kernel
abbrev rm_cPageBoard_count : Room := { frames := 1, cells := 0, slots := 0, locals := 21 }
def cPageBoard_count_b22 (st : CS) (x1 : Int32) : Int64 := (if x1 = (0 : Int32) then (gL st 0) else (if x1 = (1 : Int32) then (gL st 1) else (if x1 = (9 : Int32) then (gL st 4) else (if x1 = (10 : Int32) then (gL st 5) else (if x1 = (11 : Int32) then (gL st 3) else (if x1 = (12 : Int32) then (gL st 2) else (-1 : Int64)))))))
set_option maxHeartbeats 4000000 in
set_option maxRecDepth 100000 in
theorem k_cPageBoard_count_b22 {p : Program} {l : Launch} {e : Env} {s : State} {m : MethodId} {args : Array Value} {below : List Frame} {meth : Method} {c : Code} {A : Nat → Prop} (g : Gm) (C : cX p s m args meth c A cX10_count (some .long) 2 RX10 wq_X10_count (gD g) vwCl (cty g) (cz g)) (st : CS) (x1 : Int32) (H : Heap) (locs : List Loc) (ls : Array Slot) (hI : cI (gD g) vwCl (cw g) A s st H locs) (hl : lv_has ls 2 [(0, .ref (gad g 0)), (1, .int x1)]) (X : Int64) (hF : X = cPageBoard_count_b22 st x1) : W p l e rm_cPageBoard_count s m args below meth c H locs 0 0 (MQ below (cQl (gD g) vwCl (cty g) (cw g) A st X) args s 0 0 A) (F0 m 22 ls []) := by
  obtain ⟨hx, hb, hr, hml, hown, hts, hlocks, hK, hA, hZ, hzo⟩ := id C
  unfold cPageBoard_count_b22 at hF
  refine lv_iload_n hx hb dX10_count_22 rfl (lv_at hl 1 rfl) ?_
  by_cases c_23_0 : x1 = (0 : Int32)
  · have hF := hF.trans (if_pos c_23_0)
    refine lv_tableIn (off := 65) (tgt := 88) hx hb dX10_count_23 (by rw [c_23_0]; decide) (by rw [c_23_0]; decide) (by rw [c_23_0]; rfl) (by decide) ?_
    refine lv_aload_n hx hb dX10_count_88 rfl (lv_at hl 0 rfl) ?_
    refine va_get (D := gD g) (ci := 10) (C := RX10) (T := TX10) (N := 13) (v := .long (gL st 0)) hx hb hts (fun w h => List.mem_cons_of_mem _ (isX100 w h)) hown hK hI.1 0 rfl rfl 11 (by decide) (hts _ (List.mem_cons_of_mem _ mw303)) (fun _ h9 => h9) rfl dX10_count_89 ?_
    exact cx_lret C hI rfl hF dX10_count_92
  · have hF := hF.trans (if_neg c_23_0)
    by_cases c_23_1 : x1 = (1 : Int32)
    · have hF := hF.trans (if_pos c_23_1)
      refine lv_tableIn (off := 70) (tgt := 93) hx hb dX10_count_23 (by rw [c_23_1]; decide) (by rw [c_23_1]; decide) (by rw [c_23_1]; rfl) (by decide) ?_
      refine lv_aload_n hx hb dX10_count_93 rfl (lv_at hl 0 rfl) ?_
      refine va_get (D := gD g) (ci := 10) (C := RX10) (T := TX10) (N := 13) (v := .long (gL st 1)) hx hb hts (fun w h => List.mem_cons_of_mem _ (isX100 w h)) hown hK hI.1 0 rfl rfl 12 (by decide) (hts _ (List.mem_cons_of_mem _ mw302)) (fun _ h9 => h9) rfl dX10_count_94 ?_
      exact cx_lret C hI rfl hF dX10_count_97
    · have hF := hF.trans (if_neg c_23_1)
      by_cases c_23_2 : x1 = (9 : Int32)
      · have hF := hF.trans (if_pos c_23_2)
        refine lv_tableIn (off := 75) (tgt := 98) hx hb dX10_count_23 (by rw [c_23_2]; decide) (by rw [c_23_2]; decide) (by rw [c_23_2]; rfl) (by decide) ?_
        refine lv_aload_n hx hb dX10_count_98 rfl (lv_at hl 0 rfl) ?_
        refine va_get (D := gD g) (ci := 10) (C := RX10) (T := TX10) (N := 13) (v := .ref (gad g 15)) hx hb hts (fun w h => List.mem_cons_of_mem _ (isX100 w h)) hown hK hI.1 0 rfl rfl 7 (by decide) (hts _ (List.mem_cons_of_mem _ mw39)) (fun _ h9 => h9) rfl dX10_count_99 ?_
        refine va_get (D := gD g) (ci := 7) (C := RX7) (T := TX7) (N := 12) (v := .long (gL st 4)) hx hb hts (fun w h => List.mem_cons_of_mem _ (isX70 w h)) hown hK hI.1 15 rfl rfl 11 (by decide) (hts _ (List.mem_cons_of_mem _ mw1011)) (fun _ h9 => h9) rfl dX10_count_102 ?_
        exact cx_lret C hI rfl hF dX10_count_105
      · have hF := hF.trans (if_neg c_23_2)
        by_cases c_23_3 : x1 = (10 : Int32)
        · have hF := hF.trans (if_pos c_23_3)
          refine lv_tableIn (off := 83) (tgt := 106) hx hb dX10_count_23 (by rw [c_23_3]; decide) (by rw [c_23_3]; decide) (by rw [c_23_3]; rfl) (by decide) ?_
          refine lv_aload_n hx hb dX10_count_106 rfl (lv_at hl 0 rfl) ?_
          refine va_get (D := gD g) (ci := 10) (C := RX10) (T := TX10) (N := 13) (v := .ref (gad g 19)) hx hb hts (fun w h => List.mem_cons_of_mem _ (isX100 w h)) hown hK hI.1 0 rfl rfl 9 (by decide) (hts _ (List.mem_cons_of_mem _ mw47)) (fun _ h9 => h9) rfl dX10_count_107 ?_
          refine va_get (D := gD g) (ci := 5) (C := RX5) (T := TX5) (N := 10) (v := .long (gL st 5)) hx hb hts (fun w h => List.mem_cons_of_mem _ (isX50 w h)) hown hK hI.1 19 rfl rfl 9 (by decide) (hts _ (List.mem_cons_of_mem _ mw1012)) (fun _ h9 => h9) rfl dX10_count_110 ?_
          exact cx_lret C hI rfl hF dX10_count_113
        · have hF := hF.trans (if_neg c_23_3)
          by_cases c_23_4 : x1 = (11 : Int32)
          · have hF := hF.trans (if_pos c_23_4)
            refine lv_tableIn (off := 91) (tgt := 114) hx hb dX10_count_23 (by rw [c_23_4]; decide) (by rw [c_23_4]; decide) (by rw [c_23_4]; rfl) (by decide) ?_
            refine lv_aload_n hx hb dX10_count_114 rfl (lv_at hl 0 rfl) ?_
            refine va_get (D := gD g) (ci := 10) (C := RX10) (T := TX10) (N := 13) (v := .ref (gad g 10)) hx hb hts (fun w h => List.mem_cons_of_mem _ (isX100 w h)) hown hK hI.1 0 rfl rfl 5 (by decide) (hts _ (List.mem_cons_of_mem _ mw31)) (fun _ h9 => h9) rfl dX10_count_115 ?_
            refine va_get (D := gD g) (ci := 2) (C := RX2) (T := TX2) (N := 11) (v := .long (gL st 3)) hx hb hts (fun w h => List.mem_cons_of_mem _ (isX20 w h)) hown hK hI.1 10 rfl rfl 10 (by decide) (hts _ (List.mem_cons_of_mem _ mw1013)) (fun _ h9 => h9) rfl dX10_count_118 ?_
            exact cx_lret C hI rfl hF dX10_count_121
          · have hF := hF.trans (if_neg c_23_4)
            by_cases c_23_5 : x1 = (12 : Int32)
            · have hF := hF.trans (if_pos c_23_5)
              refine lv_tableIn (off := 99) (tgt := 122) hx hb dX10_count_23 (by rw [c_23_5]; decide) (by rw [c_23_5]; decide) (by rw [c_23_5]; rfl) (by decide) ?_
              refine lv_aload_n hx hb dX10_count_122 rfl (lv_at hl 0 rfl) ?_
              refine va_get (D := gD g) (ci := 10) (C := RX10) (T := TX10) (N := 13) (v := .ref (gad g 8)) hx hb hts (fun w h => List.mem_cons_of_mem _ (isX100 w h)) hown hK hI.1 0 rfl rfl 4 (by decide) (hts _ (List.mem_cons_of_mem _ mw27)) (fun _ h9 => h9) rfl dX10_count_123 ?_
              refine va_get (D := gD g) (ci := 8) (C := RX8) (T := TX8) (N := 5) (v := .long (gL st 2)) hx hb hts (fun w h => List.mem_cons_of_mem _ (isX80 w h)) hown hK hI.1 8 rfl rfl 2 (by decide) (hts _ (List.mem_cons_of_mem _ mw1014)) (fun _ h9 => h9) rfl dX10_count_126 ?_
              exact cx_lret C hI rfl hF dX10_count_129
            · have hF := hF.trans (if_neg c_23_5)
              by_cases cg_23_2 : x1 = (2 : Int32)
              · refine lv_tableIn (off := 107) (tgt := 130) hx hb dX10_count_23 (by rw [cg_23_2]; decide) (by rw [cg_23_2]; decide) (by rw [cg_23_2]; rfl) (by decide) ?_
                refine lv_ldc2 (v := (-1 : Int64)) hx hb hown (hts _ (List.mem_cons_of_mem _ mw1015)) dX10_count_130 ?_
                exact cx_lret C hI rfl hF dX10_count_133
              by_cases cg_23_3 : x1 = (3 : Int32)
              · refine lv_tableIn (off := 107) (tgt := 130) hx hb dX10_count_23 (by rw [cg_23_3]; decide) (by rw [cg_23_3]; decide) (by rw [cg_23_3]; rfl) (by decide) ?_
                refine lv_ldc2 (v := (-1 : Int64)) hx hb hown (hts _ (List.mem_cons_of_mem _ mw1015)) dX10_count_130 ?_
                exact cx_lret C hI rfl hF dX10_count_133
              by_cases cg_23_4 : x1 = (4 : Int32)
              · refine lv_tableIn (off := 107) (tgt := 130) hx hb dX10_count_23 (by rw [cg_23_4]; decide) (by rw [cg_23_4]; decide) (by rw [cg_23_4]; rfl) (by decide) ?_
                refine lv_ldc2 (v := (-1 : Int64)) hx hb hown (hts _ (List.mem_cons_of_mem _ mw1015)) dX10_count_130 ?_
                exact cx_lret C hI rfl hF dX10_count_133
              by_cases cg_23_5 : x1 = (5 : Int32)
              · refine lv_tableIn (off := 107) (tgt := 130) hx hb dX10_count_23 (by rw [cg_23_5]; decide) (by rw [cg_23_5]; decide) (by rw [cg_23_5]; rfl) (by decide) ?_
                refine lv_ldc2 (v := (-1 : Int64)) hx hb hown (hts _ (List.mem_cons_of_mem _ mw1015)) dX10_count_130 ?_
                exact cx_lret C hI rfl hF dX10_count_133
              by_cases cg_23_6 : x1 = (6 : Int32)
              · refine lv_tableIn (off := 107) (tgt := 130) hx hb dX10_count_23 (by rw [cg_23_6]; decide) (by rw [cg_23_6]; decide) (by rw [cg_23_6]; rfl) (by decide) ?_
                refine lv_ldc2 (v := (-1 : Int64)) hx hb hown (hts _ (List.mem_cons_of_mem _ mw1015)) dX10_count_130 ?_
                exact cx_lret C hI rfl hF dX10_count_133
              by_cases cg_23_7 : x1 = (7 : Int32)
              · refine lv_tableIn (off := 107) (tgt := 130) hx hb dX10_count_23 (by rw [cg_23_7]; decide) (by rw [cg_23_7]; decide) (by rw [cg_23_7]; rfl) (by decide) ?_
                refine lv_ldc2 (v := (-1 : Int64)) hx hb hown (hts _ (List.mem_cons_of_mem _ mw1015)) dX10_count_130 ?_
                exact cx_lret C hI rfl hF dX10_count_133
              by_cases cg_23_8 : x1 = (8 : Int32)
              · refine lv_tableIn (off := 107) (tgt := 130) hx hb dX10_count_23 (by rw [cg_23_8]; decide) (by rw [cg_23_8]; decide) (by rw [cg_23_8]; rfl) (by decide) ?_
                refine lv_ldc2 (v := (-1 : Int64)) hx hb hown (hts _ (List.mem_cons_of_mem _ mw1015)) dX10_count_130 ?_
                exact cx_lret C hI rfl hF dX10_count_133
              refine lv_tableOut (tgt := 130) hx hb dX10_count_23 (by have h0 := lv_neT (a := 0) c_23_0 (by decide); have h1 := lv_neT (a := 1) c_23_1 (by decide); have h2 := lv_neT (a := 9) c_23_2 (by decide); have h3 := lv_neT (a := 10) c_23_3 (by decide); have h4 := lv_neT (a := 11) c_23_4 (by decide); have h5 := lv_neT (a := 12) c_23_5 (by decide); have g0 := lv_neT (a := 2) cg_23_2 (by decide); have g1 := lv_neT (a := 3) cg_23_3 (by decide); have g2 := lv_neT (a := 4) cg_23_4 (by decide); have g3 := lv_neT (a := 5) cg_23_5 (by decide); have g4 := lv_neT (a := 6) cg_23_6 (by decide); have g5 := lv_neT (a := 7) cg_23_7 (by decide); have g6 := lv_neT (a := 8) cg_23_8 (by decide); omega) (by decide) ?_
              refine lv_ldc2 (v := (-1 : Int64)) hx hb hown (hts _ (List.mem_cons_of_mem _ mw1015)) dX10_count_130 ?_
              exact cx_lret C hI rfl hF dX10_count_133
def cPageBoard_count (st : CS) (x1 : Int32) : Int64 := (if (x1 < (2 : Int32)) then (cPageBoard_count_b22 st x1) else (if ((8 : Int32) < x1) then (cPageBoard_count_b22 st x1) else (cProcessor_trapsTaken st (x1 - (2 : Int32)))))
set_option maxHeartbeats 4000000 in
set_option maxRecDepth 100000 in
theorem k_cPageBoard_count {p : Program} {l : Launch} {e : Env} {s : State} {m : MethodId} {args : Array Value} {below : List Frame} {meth : Method} {c : Code} {A : Nat → Prop} (g : Gm) (C : cX p s m args meth c A cX10_count (some .long) 2 RX10 wq_X10_count (gD g) vwCl (cty g) (cz g)) (st : CS) (x1 : Int32) (H : Heap) (locs : List Loc) (ls : Array Slot) (hI : cI (gD g) vwCl (cw g) A s st H locs) (hl : lv_has ls 2 [(0, .ref (gad g 0)), (1, .int x1)]) (X : Int64) (hF : X = cPageBoard_count st x1) : W p l e rm_cPageBoard_count s m args below meth c H locs 0 0 (MQ below (cQl (gD g) vwCl (cty g) (cw g) A st X) args s 0 0 A) (F0 m 0 ls []) := by
  obtain ⟨hx, hb, hr, hml, hown, hts, hlocks, hK, hA, hZ, hzo⟩ := id C
  unfold cPageBoard_count at hF
  refine lv_iload_n hx hb dX10_count_0 rfl (lv_at hl 1 rfl) ?_
  refine lv_iconst (v := (2 : Int32)) hx hb dX10_count_1 (by decide) ?_
  refine lv_icmp_lt (tgt := 22) hx hb dX10_count_2 (by decide) (fun c_2 => ?_) (fun c_2 => ?_)
  · have hF := hF.trans (if_pos c_2)
    exact k_cPageBoard_count_b22 g C st x1 H locs ls hI (lv_sub hl [0, 1] rfl) X hF
  · have hF := hF.trans (if_neg c_2)
    refine lv_iload_n hx hb dX10_count_5 rfl (lv_at hl 1 rfl) ?_
    refine lv_bipush (v := (8 : Int32)) hx hb dX10_count_6 (by decide) ?_
    refine lv_icmp_gt (tgt := 22) hx hb dX10_count_8 (by decide) (fun c_8 => ?_) (fun c_8 => ?_)
    · have hF := hF.trans (if_pos c_8)
      exact k_cPageBoard_count_b22 g C st x1 H locs ls hI (lv_sub hl [0, 1] rfl) X hF
    · have hF := hF.trans (if_neg c_8)
      refine lv_aload_n hx hb dX10_count_11 rfl (lv_at hl 0 rfl) ?_
      refine va_get (D := gD g) (ci := 10) (C := RX10) (T := TX10) (N := 13) (v := .ref (gad g 19)) hx hb hts (fun w h => List.mem_cons_of_mem _ (isX100 w h)) hown hK hI.1 0 rfl rfl 9 (by decide) (hts _ (List.mem_cons_of_mem _ mw47)) (fun _ h9 => h9) rfl dX10_count_12 ?_
      refine lv_iload_n hx hb dX10_count_15 rfl (lv_at hl 1 rfl) ?_
      refine lv_iconst (v := (2 : Int32)) hx hb dX10_count_16 (by decide) ?_
      refine lv_isub hx hb dX10_count_17 ?_
      refine cx_Vl (As := [.int (x1 - (2 : Int32))]) (rest := []) C (c_cProcessor_trapsTaken l g st (x1 - (2 : Int32))) (cwV 1 hts (gd_V _ mw1016 mw1017 mw1018 mw46 mw1019) rfl rfl rfl yd_yX5_trapsTaken ⟨Nat.le_of_ble_eq_true rfl, Nat.le_of_ble_eq_true rfl⟩) (va_recv hK hI.1 (ci := 5) (q0 := 19) rfl rfl) hI rfl hl.1 rfl (Nat.le_of_ble_eq_true rfl) dX10_count_18 (fun H locs hI => ?_)
      exact cx_lret C hI rfl hF dX10_count_21
set_option maxHeartbeats 4000000 in
set_option maxRecDepth 100000 in
theorem c_cPageBoard_count (l : Launch) (g : Gm) (st : CS) (x1 : Int32) : Ml l yX10_count wq_X10_count rm_cPageBoard_count (gD g) vwCl (cty g) (cw g) (cz g) [.ref (gad g 0), .int x1] st st (cPageBoard_count st x1) := by
  intro sz
  refine Met.ofW (cc := cX10_count) (maxL := 2) (ret := (some .long)) (by decide) rfl ?_
  intro p e s m args below meth c s₁ B hml hv
  obtain ⟨rfl, hsz, hP, hK, hD0, hZ⟩ := hv
  subst hsz
  have hl := lv_entry ([.ref (gad g 0), .int x1]) (n := 2) (Nat.le_of_ble_eq_true rfl)
  rw [lg_entry_eq]
  generalize (lg_sl ([.ref (gad g 0), .int x1]) ++ List.replicate (2 - (lg_sl ([.ref (gad g 0), .int x1])).length) Slot.unset).toArray = ls at hl ⊢
  exact k_cPageBoard_count g ⟨B.exec, B.bytes, B.returns, hml, findClass_of_methodNamed B.named, atoms_spec (ws := wq_X10_count) B.pre, B.notSynchronized, hK, fun q h => Or.inr h, hZ, cz_ok g⟩ st x1 _ _ ls ⟨hP, hD0.self, va_S.rf⟩ hl _ rfl
abbrev wq_X10_look : List Cond := .code yX10_look cX10_look 2 (some .int) :: wAll
theorem yd_yX10_look : yX10_look.cls = RX10 ∧ yX10_look.cls ≠ "java/lang/invoke/MethodHandle" ∧ yX10_look.cls ≠ "java/lang/invoke/VarHandle" ∧ (parseMethodDescriptor yX10_look.desc).map (fun d => d.parameters.length) = some 1 := by decide +kernel
abbrev rm_cPageBoard_look : Room := { frames := 1, cells := 0, slots := 0, locals := 21 }
def cPageBoard_look_b24 (st : CS) (x1 : Int32) : Int32 := (if x1 = (0 : Int32) then (gI st 25) else (if x1 = (1 : Int32) then (gI st 29) else (if x1 = (2 : Int32) then (gI st 1) else (if x1 = (3 : Int32) then (gI st 26) else (if x1 = (4 : Int32) then (gI st 27) else (if x1 = (5 : Int32) then (gI st 28) else (if x1 = (6 : Int32) then (gI st 24) else (if x1 = (7 : Int32) then (gI st 19) else (if x1 = (8 : Int32) then (gI st 22) else (if x1 = (9 : Int32) then (gI st 16) else (if x1 = (10 : Int32) then (gI st 9) else (if x1 = (11 : Int32) then (gI st 30) else (if x1 = (12 : Int32) then (if ((cLines_isIrq st) = 0) then (0 : Int32) else (1 : Int32)) else (if x1 = (13 : Int32) then (if ((cLines_isFiq st) = 0) then (0 : Int32) else (1 : Int32)) else (-1 : Int32)))))))))))))))
set_option maxHeartbeats 4000000 in
set_option maxRecDepth 100000 in
theorem k_cPageBoard_look_b24 {p : Program} {l : Launch} {e : Env} {s : State} {m : MethodId} {args : Array Value} {below : List Frame} {meth : Method} {c : Code} {A : Nat → Prop} (g : Gm) (C : cX p s m args meth c A cX10_look (some .int) 2 RX10 wq_X10_look (gD g) vwCl (cty g) (cz g)) (st : CS) (x1 : Int32) (H : Heap) (locs : List Loc) (ls : Array Slot) (hI : cI (gD g) vwCl (cw g) A s st H locs) (hl : lv_has ls 2 [(0, .ref (gad g 0)), (1, .int x1)]) (X : Int32) (hF : X = cPageBoard_look_b24 st x1) : W p l e rm_cPageBoard_look s m args below meth c H locs 0 0 (MQ below (cQi (gD g) vwCl (cty g) (cw g) A st X) args s 0 0 A) (F0 m 24 ls []) := by
  obtain ⟨hx, hb, hr, hml, hown, hts, hlocks, hK, hA, hZ, hzo⟩ := id C
  unfold cPageBoard_look_b24 at hF
  refine lv_iload_n hx hb dX10_look_24 rfl (lv_at hl 1 rfl) ?_
  by_cases c_25_0 : x1 = (0 : Int32)
  · have hF := hF.trans (if_pos c_25_0)
    refine lv_tableIn (off := 71) (tgt := 96) hx hb dX10_look_25 (by rw [c_25_0]; decide) (by rw [c_25_0]; decide) (by rw [c_25_0]; rfl) (by decide) ?_
    refine lv_aload_n hx hb dX10_look_96 rfl (lv_at hl 0 rfl) ?_
    refine va_get (D := gD g) (ci := 10) (C := RX10) (T := TX10) (N := 13) (v := .ref (gad g 15)) hx hb hts (fun w h => List.mem_cons_of_mem _ (isX100 w h)) hown hK hI.1 0 rfl rfl 7 (by decide) (hts _ (List.mem_cons_of_mem _ mw39)) (fun _ h9 => h9) rfl dX10_look_97 ?_
    refine va_get (D := gD g) (ci := 7) (C := RX7) (T := TX7) (N := 12) (v := .int (gI st 25)) hx hb hts (fun w h => List.mem_cons_of_mem _ (isX70 w h)) hown hK hI.1 15 rfl rfl 5 (by decide) (hts _ (List.mem_cons_of_mem _ mw1027)) (fun _ h9 => h9) rfl dX10_look_100 ?_
    exact cx_iret C hI rfl hF dX10_look_103
  · have hF := hF.trans (if_neg c_25_0)
    by_cases c_25_1 : x1 = (1 : Int32)
    · have hF := hF.trans (if_pos c_25_1)
      refine lv_tableIn (off := 79) (tgt := 104) hx hb dX10_look_25 (by rw [c_25_1]; decide) (by rw [c_25_1]; decide) (by rw [c_25_1]; rfl) (by decide) ?_
      refine lv_aload_n hx hb dX10_look_104 rfl (lv_at hl 0 rfl) ?_
      refine va_get (D := gD g) (ci := 10) (C := RX10) (T := TX10) (N := 13) (v := .ref (gad g 15)) hx hb hts (fun w h => List.mem_cons_of_mem _ (isX100 w h)) hown hK hI.1 0 rfl rfl 7 (by decide) (hts _ (List.mem_cons_of_mem _ mw39)) (fun _ h9 => h9) rfl dX10_look_105 ?_
      refine va_get (D := gD g) (ci := 7) (C := RX7) (T := TX7) (N := 12) (v := .int (gI st 29)) hx hb hts (fun w h => List.mem_cons_of_mem _ (isX70 w h)) hown hK hI.1 15 rfl rfl 9 (by decide) (hts _ (List.mem_cons_of_mem _ mw1028)) (fun _ h9 => h9) rfl dX10_look_108 ?_
      exact cx_iret C hI rfl hF dX10_look_111
    · have hF := hF.trans (if_neg c_25_1)
      by_cases c_25_2 : x1 = (2 : Int32)
      · have hF := hF.trans (if_pos c_25_2)
        refine lv_tableIn (off := 87) (tgt := 112) hx hb dX10_look_25 (by rw [c_25_2]; decide) (by rw [c_25_2]; decide) (by rw [c_25_2]; rfl) (by decide) ?_
        refine lv_aload_n hx hb dX10_look_112 rfl (lv_at hl 0 rfl) ?_
        refine va_get (D := gD g) (ci := 10) (C := RX10) (T := TX10) (N := 13) (v := .ref (gad g 4)) hx hb hts (fun w h => List.mem_cons_of_mem _ (isX100 w h)) hown hK hI.1 0 rfl rfl 2 (by decide) (hts _ (List.mem_cons_of_mem _ mw19)) (fun _ h9 => h9) rfl dX10_look_113 ?_
        refine va_get (D := gD g) (ci := 3) (C := RX3) (T := TX3) (N := 3) (v := .int (gI st 1)) hx hb hts (fun w h => List.mem_cons_of_mem _ (isX30 w h)) hown hK hI.1 4 rfl rfl 2 (by decide) (hts _ (List.mem_cons_of_mem _ mw1029)) (fun _ h9 => h9) rfl dX10_look_116 ?_
        exact cx_iret C hI rfl hF dX10_look_119
      · have hF := hF.trans (if_neg c_25_2)
        by_cases c_25_3 : x1 = (3 : Int32)
        · have hF := hF.trans (if_pos c_25_3)
          refine lv_tableIn (off := 95) (tgt := 120) hx hb dX10_look_25 (by rw [c_25_3]; decide) (by rw [c_25_3]; decide) (by rw [c_25_3]; rfl) (by decide) ?_
          refine lv_aload_n hx hb dX10_look_120 rfl (lv_at hl 0 rfl) ?_
          refine va_get (D := gD g) (ci := 10) (C := RX10) (T := TX10) (N := 13) (v := .ref (gad g 15)) hx hb hts (fun w h => List.mem_cons_of_mem _ (isX100 w h)) hown hK hI.1 0 rfl rfl 7 (by decide) (hts _ (List.mem_cons_of_mem _ mw39)) (fun _ h9 => h9) rfl dX10_look_121 ?_
          refine va_get (D := gD g) (ci := 7) (C := RX7) (T := TX7) (N := 12) (v := .int (gI st 26)) hx hb hts (fun w h => List.mem_cons_of_mem _ (isX70 w h)) hown hK hI.1 15 rfl rfl 6 (by decide) (hts _ (List.mem_cons_of_mem _ mw1030)) (fun _ h9 => h9) rfl dX10_look_124 ?_
          exact cx_iret C hI rfl hF dX10_look_127
        · have hF := hF.trans (if_neg c_25_3)
          by_cases c_25_4 : x1 = (4 : Int32)
          · have hF := hF.trans (if_pos c_25_4)
            refine lv_tableIn (off := 103) (tgt := 128) hx hb dX10_look_25 (by rw [c_25_4]; decide) (by rw [c_25_4]; decide) (by rw [c_25_4]; rfl) (by decide) ?_
            refine lv_aload_n hx hb dX10_look_128 rfl (lv_at hl 0 rfl) ?_
            refine va_get (D := gD g) (ci := 10) (C := RX10) (T := TX10) (N := 13) (v := .ref (gad g 15)) hx hb hts (fun w h => List.mem_cons_of_mem _ (isX100 w h)) hown hK hI.1 0 rfl rfl 7 (by decide) (hts _ (List.mem_cons_of_mem _ mw39)) (fun _ h9 => h9) rfl dX10_look_129 ?_
            refine va_get (D := gD g) (ci := 7) (C := RX7) (T := TX7) (N := 12) (v := .int (gI st 27)) hx hb hts (fun w h => List.mem_cons_of_mem _ (isX70 w h)) hown hK hI.1 15 rfl rfl 7 (by decide) (hts _ (List.mem_cons_of_mem _ mw1031)) (fun _ h9 => h9) rfl dX10_look_132 ?_
            exact cx_iret C hI rfl hF dX10_look_135
          · have hF := hF.trans (if_neg c_25_4)
            by_cases c_25_5 : x1 = (5 : Int32)
            · have hF := hF.trans (if_pos c_25_5)
              refine lv_tableIn (off := 111) (tgt := 136) hx hb dX10_look_25 (by rw [c_25_5]; decide) (by rw [c_25_5]; decide) (by rw [c_25_5]; rfl) (by decide) ?_
              refine lv_aload_n hx hb dX10_look_136 rfl (lv_at hl 0 rfl) ?_
              refine va_get (D := gD g) (ci := 10) (C := RX10) (T := TX10) (N := 13) (v := .ref (gad g 15)) hx hb hts (fun w h => List.mem_cons_of_mem _ (isX100 w h)) hown hK hI.1 0 rfl rfl 7 (by decide) (hts _ (List.mem_cons_of_mem _ mw39)) (fun _ h9 => h9) rfl dX10_look_137 ?_
              refine va_get (D := gD g) (ci := 7) (C := RX7) (T := TX7) (N := 12) (v := .int (gI st 28)) hx hb hts (fun w h => List.mem_cons_of_mem _ (isX70 w h)) hown hK hI.1 15 rfl rfl 8 (by decide) (hts _ (List.mem_cons_of_mem _ mw1032)) (fun _ h9 => h9) rfl dX10_look_140 ?_
              exact cx_iret C hI rfl hF dX10_look_143
            · have hF := hF.trans (if_neg c_25_5)
              by_cases c_25_6 : x1 = (6 : Int32)
              · have hF := hF.trans (if_pos c_25_6)
                refine lv_tableIn (off := 119) (tgt := 144) hx hb dX10_look_25 (by rw [c_25_6]; decide) (by rw [c_25_6]; decide) (by rw [c_25_6]; rfl) (by decide) ?_
                refine lv_aload_n hx hb dX10_look_144 rfl (lv_at hl 0 rfl) ?_
                refine va_get (D := gD g) (ci := 10) (C := RX10) (T := TX10) (N := 13) (v := .ref (gad g 15)) hx hb hts (fun w h => List.mem_cons_of_mem _ (isX100 w h)) hown hK hI.1 0 rfl rfl 7 (by decide) (hts _ (List.mem_cons_of_mem _ mw39)) (fun _ h9 => h9) rfl dX10_look_145 ?_
                refine va_get (D := gD g) (ci := 7) (C := RX7) (T := TX7) (N := 12) (v := .int (gI st 24)) hx hb hts (fun w h => List.mem_cons_of_mem _ (isX70 w h)) hown hK hI.1 15 rfl rfl 4 (by decide) (hts _ (List.mem_cons_of_mem _ mw1033)) (fun _ h9 => h9) rfl dX10_look_148 ?_
                exact cx_iret C hI rfl hF dX10_look_151
              · have hF := hF.trans (if_neg c_25_6)
                by_cases c_25_7 : x1 = (7 : Int32)
                · have hF := hF.trans (if_pos c_25_7)
                  refine lv_tableIn (off := 127) (tgt := 152) hx hb dX10_look_25 (by rw [c_25_7]; decide) (by rw [c_25_7]; decide) (by rw [c_25_7]; rfl) (by decide) ?_
                  refine lv_aload_n hx hb dX10_look_152 rfl (lv_at hl 0 rfl) ?_
                  refine va_get (D := gD g) (ci := 10) (C := RX10) (T := TX10) (N := 13) (v := .ref (gad g 12)) hx hb hts (fun w h => List.mem_cons_of_mem _ (isX100 w h)) hown hK hI.1 0 rfl rfl 6 (by decide) (hts _ (List.mem_cons_of_mem _ mw35)) (fun _ h9 => h9) rfl dX10_look_153 ?_
                  refine va_get (D := gD g) (ci := 1) (C := RX1) (T := TX1) (N := 5) (v := .ref (gad g 13)) hx hb hts (fun w h => List.mem_cons_of_mem _ (isX10 w h)) hown hK hI.1 12 rfl rfl 2 (by decide) (hts _ (List.mem_cons_of_mem _ mw1034)) (fun _ h9 => h9) rfl dX10_look_156 ?_
                  refine va_get (D := gD g) (ci := 9) (C := RX9) (T := TX9) (N := 3) (v := .int (gI st 19)) hx hb hts (fun w h => List.mem_cons_of_mem _ (isX90 w h)) hown hK hI.1 13 rfl rfl 1 (by decide) (hts _ (List.mem_cons_of_mem _ mw1035)) (fun _ h9 => h9) rfl dX10_look_159 ?_
                  exact cx_iret C hI rfl hF dX10_look_162
                · have hF := hF.trans (if_neg c_25_7)
                  by_cases c_25_8 : x1 = (8 : Int32)
                  · have hF := hF.trans (if_pos c_25_8)
                    refine lv_tableIn (off := 138) (tgt := 163) hx hb dX10_look_25 (by rw [c_25_8]; decide) (by rw [c_25_8]; decide) (by rw [c_25_8]; rfl) (by decide) ?_
                    refine lv_aload_n hx hb dX10_look_163 rfl (lv_at hl 0 rfl) ?_
                    refine va_get (D := gD g) (ci := 10) (C := RX10) (T := TX10) (N := 13) (v := .ref (gad g 12)) hx hb hts (fun w h => List.mem_cons_of_mem _ (isX100 w h)) hown hK hI.1 0 rfl rfl 6 (by decide) (hts _ (List.mem_cons_of_mem _ mw35)) (fun _ h9 => h9) rfl dX10_look_164 ?_
                    refine va_get (D := gD g) (ci := 1) (C := RX1) (T := TX1) (N := 5) (v := .ref (gad g 14)) hx hb hts (fun w h => List.mem_cons_of_mem _ (isX10 w h)) hown hK hI.1 12 rfl rfl 3 (by decide) (hts _ (List.mem_cons_of_mem _ mw1036)) (fun _ h9 => h9) rfl dX10_look_167 ?_
                    refine va_get (D := gD g) (ci := 9) (C := RX9) (T := TX9) (N := 3) (v := .int (gI st 22)) hx hb hts (fun w h => List.mem_cons_of_mem _ (isX90 w h)) hown hK hI.1 14 rfl rfl 1 (by decide) (hts _ (List.mem_cons_of_mem _ mw1035)) (fun _ h9 => h9) rfl dX10_look_170 ?_
                    exact cx_iret C hI rfl hF dX10_look_173
                  · have hF := hF.trans (if_neg c_25_8)
                    by_cases c_25_9 : x1 = (9 : Int32)
                    · have hF := hF.trans (if_pos c_25_9)
                      refine lv_tableIn (off := 149) (tgt := 174) hx hb dX10_look_25 (by rw [c_25_9]; decide) (by rw [c_25_9]; decide) (by rw [c_25_9]; rfl) (by decide) ?_
                      refine lv_aload_n hx hb dX10_look_174 rfl (lv_at hl 0 rfl) ?_
                      refine va_get (D := gD g) (ci := 10) (C := RX10) (T := TX10) (N := 13) (v := .ref (gad g 10)) hx hb hts (fun w h => List.mem_cons_of_mem _ (isX100 w h)) hown hK hI.1 0 rfl rfl 5 (by decide) (hts _ (List.mem_cons_of_mem _ mw31)) (fun _ h9 => h9) rfl dX10_look_175 ?_
                      refine va_get (D := gD g) (ci := 2) (C := RX2) (T := TX2) (N := 11) (v := .int (gI st 16)) hx hb hts (fun w h => List.mem_cons_of_mem _ (isX20 w h)) hown hK hI.1 10 rfl rfl 9 (by decide) (hts _ (List.mem_cons_of_mem _ mw679)) (fun _ h9 => h9) rfl dX10_look_178 ?_
                      exact cx_iret C hI rfl hF dX10_look_181
                    · have hF := hF.trans (if_neg c_25_9)
                      by_cases c_25_10 : x1 = (10 : Int32)
                      · have hF := hF.trans (if_pos c_25_10)
                        refine lv_tableIn (off := 157) (tgt := 182) hx hb dX10_look_25 (by rw [c_25_10]; decide) (by rw [c_25_10]; decide) (by rw [c_25_10]; rfl) (by decide) ?_
                        refine lv_aload_n hx hb dX10_look_182 rfl (lv_at hl 0 rfl) ?_
                        refine va_get (D := gD g) (ci := 10) (C := RX10) (T := TX10) (N := 13) (v := .ref (gad g 8)) hx hb hts (fun w h => List.mem_cons_of_mem _ (isX100 w h)) hown hK hI.1 0 rfl rfl 4 (by decide) (hts _ (List.mem_cons_of_mem _ mw27)) (fun _ h9 => h9) rfl dX10_look_183 ?_
                        refine va_get (D := gD g) (ci := 8) (C := RX8) (T := TX8) (N := 5) (v := .int (gI st 9)) hx hb hts (fun w h => List.mem_cons_of_mem _ (isX80 w h)) hown hK hI.1 8 rfl rfl 4 (by decide) (hts _ (List.mem_cons_of_mem _ mw1037)) (fun _ h9 => h9) rfl dX10_look_186 ?_
                        exact cx_iret C hI rfl hF dX10_look_189
                      · have hF := hF.trans (if_neg c_25_10)
                        by_cases c_25_11 : x1 = (11 : Int32)
                        · have hF := hF.trans (if_pos c_25_11)
                          refine lv_tableIn (off := 165) (tgt := 190) hx hb dX10_look_25 (by rw [c_25_11]; decide) (by rw [c_25_11]; decide) (by rw [c_25_11]; rfl) (by decide) ?_
                          refine lv_aload_n hx hb dX10_look_190 rfl (lv_at hl 0 rfl) ?_
                          refine va_get (D := gD g) (ci := 10) (C := RX10) (T := TX10) (N := 13) (v := .ref (gad g 15)) hx hb hts (fun w h => List.mem_cons_of_mem _ (isX100 w h)) hown hK hI.1 0 rfl rfl 7 (by decide) (hts _ (List.mem_cons_of_mem _ mw39)) (fun _ h9 => h9) rfl dX10_look_191 ?_
                          refine va_get (D := gD g) (ci := 7) (C := RX7) (T := TX7) (N := 12) (v := .int (gI st 30)) hx hb hts (fun w h => List.mem_cons_of_mem _ (isX70 w h)) hown hK hI.1 15 rfl rfl 10 (by decide) (hts _ (List.mem_cons_of_mem _ mw680)) (fun _ h9 => h9) rfl dX10_look_194 ?_
                          exact cx_iret C hI rfl hF dX10_look_197
                        · have hF := hF.trans (if_neg c_25_11)
                          by_cases c_25_12 : x1 = (12 : Int32)
                          · have hF := hF.trans (if_pos c_25_12)
                            refine lv_tableIn (off := 173) (tgt := 198) hx hb dX10_look_25 (by rw [c_25_12]; decide) (by rw [c_25_12]; decide) (by rw [c_25_12]; rfl) (by decide) ?_
                            refine lv_aload_n hx hb dX10_look_198 rfl (lv_at hl 0 rfl) ?_
                            refine va_get (D := gD g) (ci := 10) (C := RX10) (T := TX10) (N := 13) (v := .ref (gad g 7)) hx hb hts (fun w h => List.mem_cons_of_mem _ (isX100 w h)) hown hK hI.1 0 rfl rfl 3 (by decide) (hts _ (List.mem_cons_of_mem _ mw23)) (fun _ h9 => h9) rfl dX10_look_199 ?_
                            refine cx_Vi (As := []) (rest := []) C (c_cLines_isIrq l g st ) (cwV 0 hts (gd_V _ mw1042 mw326 mw327 mw22 mw328) rfl rfl rfl yd_yX4_isIrq ⟨Nat.le_of_ble_eq_true rfl, Nat.le_of_ble_eq_true rfl⟩) (va_recv hK hI.1 (ci := 4) (q0 := 7) rfl rfl) hI rfl hl.1 rfl (Nat.le_of_ble_eq_true rfl) dX10_look_202 (fun H locs hI => ?_)
                            refine lv_if_eq (tgt := 212) hx hb dX10_look_205 (by decide) (fun c_205 => ?_) (fun c_205 => ?_)
                            · have hF := hF.trans (if_pos c_205)
                              refine lv_iconst (v := (0 : Int32)) hx hb dX10_look_212 (by decide) ?_
                              exact cx_iret C hI rfl hF dX10_look_213
                            · have hF := hF.trans (if_neg c_205)
                              refine lv_iconst (v := (1 : Int32)) hx hb dX10_look_208 (by decide) ?_
                              refine lv_goto (tgt := 213) hx hb dX10_look_209 (by decide) ?_
                              exact cx_iret C hI rfl hF dX10_look_213
                          · have hF := hF.trans (if_neg c_25_12)
                            by_cases c_25_13 : x1 = (13 : Int32)
                            · have hF := hF.trans (if_pos c_25_13)
                              refine lv_tableIn (off := 189) (tgt := 214) hx hb dX10_look_25 (by rw [c_25_13]; decide) (by rw [c_25_13]; decide) (by rw [c_25_13]; rfl) (by decide) ?_
                              refine lv_aload_n hx hb dX10_look_214 rfl (lv_at hl 0 rfl) ?_
                              refine va_get (D := gD g) (ci := 10) (C := RX10) (T := TX10) (N := 13) (v := .ref (gad g 7)) hx hb hts (fun w h => List.mem_cons_of_mem _ (isX100 w h)) hown hK hI.1 0 rfl rfl 3 (by decide) (hts _ (List.mem_cons_of_mem _ mw23)) (fun _ h9 => h9) rfl dX10_look_215 ?_
                              refine cx_Vi (As := []) (rest := []) C (c_cLines_isFiq l g st ) (cwV 0 hts (gd_V _ mw1043 mw318 mw319 mw22 mw320) rfl rfl rfl yd_yX4_isFiq ⟨Nat.le_of_ble_eq_true rfl, Nat.le_of_ble_eq_true rfl⟩) (va_recv hK hI.1 (ci := 4) (q0 := 7) rfl rfl) hI rfl hl.1 rfl (Nat.le_of_ble_eq_true rfl) dX10_look_218 (fun H locs hI => ?_)
                              refine lv_if_eq (tgt := 228) hx hb dX10_look_221 (by decide) (fun c_221 => ?_) (fun c_221 => ?_)
                              · have hF := hF.trans (if_pos c_221)
                                refine lv_iconst (v := (0 : Int32)) hx hb dX10_look_228 (by decide) ?_
                                exact cx_iret C hI rfl hF dX10_look_229
                              · have hF := hF.trans (if_neg c_221)
                                refine lv_iconst (v := (1 : Int32)) hx hb dX10_look_224 (by decide) ?_
                                refine lv_goto (tgt := 229) hx hb dX10_look_225 (by decide) ?_
                                exact cx_iret C hI rfl hF dX10_look_229
                            · have hF := hF.trans (if_neg c_25_13)
                              refine lv_tableOut (tgt := 230) hx hb dX10_look_25 (by have h0 := lv_neT (a := 0) c_25_0 (by decide); have h1 := lv_neT (a := 1) c_25_1 (by decide); have h2 := lv_neT (a := 2) c_25_2 (by decide); have h3 := lv_neT (a := 3) c_25_3 (by decide); have h4 := lv_neT (a := 4) c_25_4 (by decide); have h5 := lv_neT (a := 5) c_25_5 (by decide); have h6 := lv_neT (a := 6) c_25_6 (by decide); have h7 := lv_neT (a := 7) c_25_7 (by decide); have h8 := lv_neT (a := 8) c_25_8 (by decide); have h9 := lv_neT (a := 9) c_25_9 (by decide); have h10 := lv_neT (a := 10) c_25_10 (by decide); have h11 := lv_neT (a := 11) c_25_11 (by decide); have h12 := lv_neT (a := 12) c_25_12 (by decide); have h13 := lv_neT (a := 13) c_25_13 (by decide); omega) (by decide) ?_
                              refine lv_iconst (v := (-1 : Int32)) hx hb dX10_look_230 (by decide) ?_
                              exact cx_iret C hI rfl hF dX10_look_231
def cPageBoard_look (st : CS) (x1 : Int32) : Int32 := (if (x1 < (16 : Int32)) then (cPageBoard_look_b24 st x1) else (if ((31 : Int32) < x1) then (cPageBoard_look_b24 st x1) else (cScreen_colourOf st (x1 - (16 : Int32)))))
set_option maxHeartbeats 4000000 in
set_option maxRecDepth 100000 in
theorem k_cPageBoard_look {p : Program} {l : Launch} {e : Env} {s : State} {m : MethodId} {args : Array Value} {below : List Frame} {meth : Method} {c : Code} {A : Nat → Prop} (g : Gm) (C : cX p s m args meth c A cX10_look (some .int) 2 RX10 wq_X10_look (gD g) vwCl (cty g) (cz g)) (st : CS) (x1 : Int32) (H : Heap) (locs : List Loc) (ls : Array Slot) (hI : cI (gD g) vwCl (cw g) A s st H locs) (hl : lv_has ls 2 [(0, .ref (gad g 0)), (1, .int x1)]) (X : Int32) (hF : X = cPageBoard_look st x1) : W p l e rm_cPageBoard_look s m args below meth c H locs 0 0 (MQ below (cQi (gD g) vwCl (cty g) (cw g) A st X) args s 0 0 A) (F0 m 0 ls []) := by
  obtain ⟨hx, hb, hr, hml, hown, hts, hlocks, hK, hA, hZ, hzo⟩ := id C
  unfold cPageBoard_look at hF
  refine lv_iload_n hx hb dX10_look_0 rfl (lv_at hl 1 rfl) ?_
  refine lv_bipush (v := (16 : Int32)) hx hb dX10_look_1 (by decide) ?_
  refine lv_icmp_lt (tgt := 24) hx hb dX10_look_3 (by decide) (fun c_3 => ?_) (fun c_3 => ?_)
  · have hF := hF.trans (if_pos c_3)
    exact k_cPageBoard_look_b24 g C st x1 H locs ls hI (lv_sub hl [0, 1] rfl) X hF
  · have hF := hF.trans (if_neg c_3)
    refine lv_iload_n hx hb dX10_look_6 rfl (lv_at hl 1 rfl) ?_
    refine lv_bipush (v := (31 : Int32)) hx hb dX10_look_7 (by decide) ?_
    refine lv_icmp_gt (tgt := 24) hx hb dX10_look_9 (by decide) (fun c_9 => ?_) (fun c_9 => ?_)
    · have hF := hF.trans (if_pos c_9)
      exact k_cPageBoard_look_b24 g C st x1 H locs ls hI (lv_sub hl [0, 1] rfl) X hF
    · have hF := hF.trans (if_neg c_9)
      refine lv_aload_n hx hb dX10_look_12 rfl (lv_at hl 0 rfl) ?_
      refine va_get (D := gD g) (ci := 10) (C := RX10) (T := TX10) (N := 13) (v := .ref (gad g 15)) hx hb hts (fun w h => List.mem_cons_of_mem _ (isX100 w h)) hown hK hI.1 0 rfl rfl 7 (by decide) (hts _ (List.mem_cons_of_mem _ mw39)) (fun _ h9 => h9) rfl dX10_look_13 ?_
      refine lv_iload_n hx hb dX10_look_16 rfl (lv_at hl 1 rfl) ?_
      refine lv_bipush (v := (16 : Int32)) hx hb dX10_look_17 (by decide) ?_
      refine lv_isub hx hb dX10_look_19 ?_
      refine cx_Vi (As := [.int (x1 - (16 : Int32))]) (rest := []) C (c_cScreen_colourOf l g st (x1 - (16 : Int32))) (cwV 1 hts (gd_V _ mw1038 mw1039 mw1040 mw38 mw1041) rfl rfl rfl yd_yX7_colourOf ⟨Nat.le_of_ble_eq_true rfl, Nat.le_of_ble_eq_true rfl⟩) (va_recv hK hI.1 (ci := 7) (q0 := 15) rfl rfl) hI rfl hl.1 rfl (Nat.le_of_ble_eq_true rfl) dX10_look_20 (fun H locs hI => ?_)
      exact cx_iret C hI rfl hF dX10_look_23
set_option maxHeartbeats 4000000 in
set_option maxRecDepth 100000 in
theorem c_cPageBoard_look (l : Launch) (g : Gm) (st : CS) (x1 : Int32) : Mi l yX10_look wq_X10_look rm_cPageBoard_look (gD g) vwCl (cty g) (cw g) (cz g) [.ref (gad g 0), .int x1] st st (cPageBoard_look st x1) := by
  intro sz
  refine Met.ofW (cc := cX10_look) (maxL := 2) (ret := (some .int)) (by decide) rfl ?_
  intro p e s m args below meth c s₁ B hml hv
  obtain ⟨rfl, hsz, hP, hK, hD0, hZ⟩ := hv
  subst hsz
  have hl := lv_entry ([.ref (gad g 0), .int x1]) (n := 2) (Nat.le_of_ble_eq_true rfl)
  rw [lg_entry_eq]
  generalize (lg_sl ([.ref (gad g 0), .int x1]) ++ List.replicate (2 - (lg_sl ([.ref (gad g 0), .int x1])).length) Slot.unset).toArray = ls at hl ⊢
  exact k_cPageBoard_look g ⟨B.exec, B.bytes, B.returns, hml, findClass_of_methodNamed B.named, atoms_spec (ws := wq_X10_look) B.pre, B.notSynchronized, hK, fun q h => Or.inr h, hZ, cz_ok g⟩ st x1 _ _ ls ⟨hP, hD0.self, va_S.rf⟩ hl _ rfl
abbrev wq_X10_place : List Cond := .code yX10_place cX10_place 3 (some .int) :: wAll
theorem yd_yX10_place : yX10_place.cls = RX10 ∧ yX10_place.cls ≠ "java/lang/invoke/MethodHandle" ∧ yX10_place.cls ≠ "java/lang/invoke/VarHandle" ∧ (parseMethodDescriptor yX10_place.desc).map (fun d => d.parameters.length) = some 2 := by decide +kernel
abbrev rm_cPageBoard_place : Room := { frames := 1, cells := 0, slots := 0, locals := 21 }
def cPageBoard_place (st : CS) (x1 : Int32) (x2 : Int32) : Int32 := (if (x1 < 0) then (-1 : Int32) else (if ((64 : Int32) ≤ x1) then (-1 : Int32) else (if (x2 < 0) then (-1 : Int32) else (if (x2 < (32 : Int32)) then (cScreen_placeOf st ((x2 * (64 : Int32)) + x1)) else (-1 : Int32)))))
set_option maxHeartbeats 4000000 in
set_option maxRecDepth 100000 in
theorem k_cPageBoard_place {p : Program} {l : Launch} {e : Env} {s : State} {m : MethodId} {args : Array Value} {below : List Frame} {meth : Method} {c : Code} {A : Nat → Prop} (g : Gm) (C : cX p s m args meth c A cX10_place (some .int) 3 RX10 wq_X10_place (gD g) vwCl (cty g) (cz g)) (st : CS) (x1 : Int32) (x2 : Int32) (H : Heap) (locs : List Loc) (ls : Array Slot) (hI : cI (gD g) vwCl (cw g) A s st H locs) (hl : lv_has ls 3 [(0, .ref (gad g 0)), (1, .int x1), (2, .int x2)]) (X : Int32) (hF : X = cPageBoard_place st x1 x2) : W p l e rm_cPageBoard_place s m args below meth c H locs 0 0 (MQ below (cQi (gD g) vwCl (cty g) (cw g) A st X) args s 0 0 A) (F0 m 0 ls []) := by
  obtain ⟨hx, hb, hr, hml, hown, hts, hlocks, hK, hA, hZ, hzo⟩ := id C
  unfold cPageBoard_place at hF
  refine lv_iload_n hx hb dX10_place_0 rfl (lv_at hl 1 rfl) ?_
  refine lv_if_lt (tgt := 20) hx hb dX10_place_1 (by decide) (fun c_1 => ?_) (fun c_1 => ?_)
  · have hF := hF.trans (if_pos c_1)
    refine lv_iconst (v := (-1 : Int32)) hx hb dX10_place_20 (by decide) ?_
    exact cx_iret C hI rfl hF dX10_place_21
  · have hF := hF.trans (if_neg c_1)
    refine lv_iload_n hx hb dX10_place_4 rfl (lv_at hl 1 rfl) ?_
    refine lv_bipush (v := (64 : Int32)) hx hb dX10_place_5 (by decide) ?_
    refine lv_icmp_ge (tgt := 20) hx hb dX10_place_7 (by decide) (fun c_7 => ?_) (fun c_7 => ?_)
    · have hF := hF.trans (if_pos c_7)
      refine lv_iconst (v := (-1 : Int32)) hx hb dX10_place_20 (by decide) ?_
      exact cx_iret C hI rfl hF dX10_place_21
    · have hF := hF.trans (if_neg c_7)
      refine lv_iload_n hx hb dX10_place_10 rfl (lv_at hl 2 rfl) ?_
      refine lv_if_lt (tgt := 20) hx hb dX10_place_11 (by decide) (fun c_11 => ?_) (fun c_11 => ?_)
      · have hF := hF.trans (if_pos c_11)
        refine lv_iconst (v := (-1 : Int32)) hx hb dX10_place_20 (by decide) ?_
        exact cx_iret C hI rfl hF dX10_place_21
      · have hF := hF.trans (if_neg c_11)
        refine lv_iload_n hx hb dX10_place_14 rfl (lv_at hl 2 rfl) ?_
        refine lv_bipush (v := (32 : Int32)) hx hb dX10_place_15 (by decide) ?_
        refine lv_icmp_lt (tgt := 22) hx hb dX10_place_17 (by decide) (fun c_17 => ?_) (fun c_17 => ?_)
        · have hF := hF.trans (if_pos c_17)
          refine lv_aload_n hx hb dX10_place_22 rfl (lv_at hl 0 rfl) ?_
          refine va_get (D := gD g) (ci := 10) (C := RX10) (T := TX10) (N := 13) (v := .ref (gad g 15)) hx hb hts (fun w h => List.mem_cons_of_mem _ (isX100 w h)) hown hK hI.1 0 rfl rfl 7 (by decide) (hts _ (List.mem_cons_of_mem _ mw39)) (fun _ h9 => h9) rfl dX10_place_23 ?_
          refine lv_iload_n hx hb dX10_place_26 rfl (lv_at hl 2 rfl) ?_
          refine lv_bipush (v := (64 : Int32)) hx hb dX10_place_27 (by decide) ?_
          refine lv_imul hx hb dX10_place_29 ?_
          refine lv_iload_n hx hb dX10_place_30 rfl (lv_at hl 1 rfl) ?_
          refine lv_iadd hx hb dX10_place_31 ?_
          refine cx_Vi (As := [.int ((x2 * (64 : Int32)) + x1)]) (rest := []) C (c_cScreen_placeOf l g st ((x2 * (64 : Int32)) + x1)) (cwV 1 hts (gd_V _ mw1050 mw1051 mw1052 mw38 mw1053) rfl rfl rfl yd_yX7_placeOf ⟨Nat.le_of_ble_eq_true rfl, Nat.le_of_ble_eq_true rfl⟩) (va_recv hK hI.1 (ci := 7) (q0 := 15) rfl rfl) hI rfl hl.1 rfl (Nat.le_of_ble_eq_true rfl) dX10_place_32 (fun H locs hI => ?_)
          exact cx_iret C hI rfl hF dX10_place_35
        · have hF := hF.trans (if_neg c_17)
          refine lv_iconst (v := (-1 : Int32)) hx hb dX10_place_20 (by decide) ?_
          exact cx_iret C hI rfl hF dX10_place_21
set_option maxHeartbeats 4000000 in
set_option maxRecDepth 100000 in
theorem c_cPageBoard_place (l : Launch) (g : Gm) (st : CS) (x1 : Int32) (x2 : Int32) : Mi l yX10_place wq_X10_place rm_cPageBoard_place (gD g) vwCl (cty g) (cw g) (cz g) [.ref (gad g 0), .int x1, .int x2] st st (cPageBoard_place st x1 x2) := by
  intro sz
  refine Met.ofW (cc := cX10_place) (maxL := 3) (ret := (some .int)) (by decide) rfl ?_
  intro p e s m args below meth c s₁ B hml hv
  obtain ⟨rfl, hsz, hP, hK, hD0, hZ⟩ := hv
  subst hsz
  have hl := lv_entry ([.ref (gad g 0), .int x1, .int x2]) (n := 3) (Nat.le_of_ble_eq_true rfl)
  rw [lg_entry_eq]
  generalize (lg_sl ([.ref (gad g 0), .int x1, .int x2]) ++ List.replicate (3 - (lg_sl ([.ref (gad g 0), .int x1, .int x2])).length) Slot.unset).toArray = ls at hl ⊢
  exact k_cPageBoard_place g ⟨B.exec, B.bytes, B.returns, hml, findClass_of_methodNamed B.named, atoms_spec (ws := wq_X10_place) B.pre, B.notSynchronized, hK, fun q h => Or.inr h, hZ, cz_ok g⟩ st x1 x2 _ _ ls ⟨hP, hD0.self, va_S.rf⟩ hl _ rfl
abbrev wq_X10_letter : List Cond := .code yX10_letter cX10_letter 2 (some .int) :: wAll
theorem yd_yX10_letter : yX10_letter.cls = RX10 ∧ yX10_letter.cls ≠ "java/lang/invoke/MethodHandle" ∧ yX10_letter.cls ≠ "java/lang/invoke/VarHandle" ∧ (parseMethodDescriptor yX10_letter.desc).map (fun d => d.parameters.length) = some 1 := by decide +kernel
abbrev rm_cPageBoard_letter : Room := { frames := 2, cells := 0, slots := 0, locals := 46 }
def cPageBoard_letter (st : CS) (x1 : Int32) : Int32 := (cSerial_keptByte st x1)
set_option maxHeartbeats 4000000 in
set_option maxRecDepth 100000 in
theorem k_cPageBoard_letter {p : Program} {l : Launch} {e : Env} {s : State} {m : MethodId} {args : Array Value} {below : List Frame} {meth : Method} {c : Code} {A : Nat → Prop} (g : Gm) (C : cX p s m args meth c A cX10_letter (some .int) 2 RX10 wq_X10_letter (gD g) vwCl (cty g) (cz g)) (st : CS) (x1 : Int32) (H : Heap) (locs : List Loc) (ls : Array Slot) (hI : cI (gD g) vwCl (cw g) A s st H locs) (hl : lv_has ls 2 [(0, .ref (gad g 0)), (1, .int x1)]) (X : Int32) (hF : X = cPageBoard_letter st x1) : W p l e rm_cPageBoard_letter s m args below meth c H locs 0 0 (MQ below (cQi (gD g) vwCl (cty g) (cw g) A st X) args s 0 0 A) (F0 m 0 ls []) := by
  obtain ⟨hx, hb, hr, hml, hown, hts, hlocks, hK, hA, hZ, hzo⟩ := id C
  unfold cPageBoard_letter at hF
  refine lv_aload_n hx hb dX10_letter_0 rfl (lv_at hl 0 rfl) ?_
  refine va_get (D := gD g) (ci := 10) (C := RX10) (T := TX10) (N := 13) (v := .ref (gad g 8)) hx hb hts (fun w h => List.mem_cons_of_mem _ (isX100 w h)) hown hK hI.1 0 rfl rfl 4 (by decide) (hts _ (List.mem_cons_of_mem _ mw27)) (fun _ h9 => h9) rfl dX10_letter_1 ?_
  refine lv_iload_n hx hb dX10_letter_4 rfl (lv_at hl 1 rfl) ?_
  refine cx_Vi (As := [.int x1]) (rest := []) C (c_cSerial_keptByte l g st x1) (cwV 1 hts (gd_V _ mw1060 mw1061 mw1062 mw26 mw1063) rfl rfl rfl yd_yX8_keptByte ⟨Nat.le_of_ble_eq_true rfl, Nat.le_of_ble_eq_true rfl⟩) (va_recv hK hI.1 (ci := 8) (q0 := 8) rfl rfl) hI rfl hl.1 rfl (Nat.le_of_ble_eq_true rfl) dX10_letter_5 (fun H locs hI => ?_)
  exact cx_iret C hI rfl hF dX10_letter_8
set_option maxHeartbeats 4000000 in
set_option maxRecDepth 100000 in
theorem c_cPageBoard_letter (l : Launch) (g : Gm) (st : CS) (x1 : Int32) : Mi l yX10_letter wq_X10_letter rm_cPageBoard_letter (gD g) vwCl (cty g) (cw g) (cz g) [.ref (gad g 0), .int x1] st st (cPageBoard_letter st x1) := by
  intro sz
  refine Met.ofW (cc := cX10_letter) (maxL := 2) (ret := (some .int)) (by decide) rfl ?_
  intro p e s m args below meth c s₁ B hml hv
  obtain ⟨rfl, hsz, hP, hK, hD0, hZ⟩ := hv
  subst hsz
  have hl := lv_entry ([.ref (gad g 0), .int x1]) (n := 2) (Nat.le_of_ble_eq_true rfl)
  rw [lg_entry_eq]
  generalize (lg_sl ([.ref (gad g 0), .int x1]) ++ List.replicate (2 - (lg_sl ([.ref (gad g 0), .int x1])).length) Slot.unset).toArray = ls at hl ⊢
  exact k_cPageBoard_letter g ⟨B.exec, B.bytes, B.returns, hml, findClass_of_methodNamed B.named, atoms_spec (ws := wq_X10_letter) B.pre, B.notSynchronized, hK, fun q h => Or.inr h, hZ, cz_ok g⟩ st x1 _ _ ls ⟨hP, hD0.self, va_S.rf⟩ hl _ rfl
abbrev wq_X10_isAtStop : List Cond := .code yX10_isAtStop cX10_isAtStop 1 (some .boolean) :: wAll
theorem yd_yX10_isAtStop : yX10_isAtStop.cls = RX10 ∧ yX10_isAtStop.cls ≠ "java/lang/invoke/MethodHandle" ∧ yX10_isAtStop.cls ≠ "java/lang/invoke/VarHandle" ∧ (parseMethodDescriptor yX10_isAtStop.desc).map (fun d => d.parameters.length) = some 0 := by decide +kernel
abbrev rm_cPageBoard_isAtStop : Room := { frames := 1, cells := 0, slots := 0, locals := 20 }
def cPageBoard_isAtStop (st : CS) : Int32 := (if ((cRegisters_pc st) = (gI st 0)) then (1 : Int32) else (0 : Int32))
set_option maxHeartbeats 4000000 in
set_option maxRecDepth 100000 in
theorem k_cPageBoard_isAtStop {p : Program} {l : Launch} {e : Env} {s : State} {m : MethodId} {args : Array Value} {below : List Frame} {meth : Method} {c : Code} {A : Nat → Prop} (g : Gm) (C : cX p s m args meth c A cX10_isAtStop (some .boolean) 1 RX10 wq_X10_isAtStop (gD g) vwCl (cty g) (cz g)) (st : CS) (H : Heap) (locs : List Loc) (ls : Array Slot) (hI : cI (gD g) vwCl (cw g) A s st H locs) (hl : lv_has ls 1 [(0, .ref (gad g 0))]) (X : Int32) (hF : X = cPageBoard_isAtStop st) : W p l e rm_cPageBoard_isAtStop s m args below meth c H locs 0 0 (MQ below (cQi (gD g) vwCl (cty g) (cw g) A st X) args s 0 0 A) (F0 m 0 ls []) := by
  obtain ⟨hx, hb, hr, hml, hown, hts, hlocks, hK, hA, hZ, hzo⟩ := id C
  unfold cPageBoard_isAtStop at hF
  refine lv_aload_n hx hb dX10_isAtStop_0 rfl (lv_at hl 0 rfl) ?_
  refine va_get (D := gD g) (ci := 10) (C := RX10) (T := TX10) (N := 13) (v := .ref (gad g 2)) hx hb hts (fun w h => List.mem_cons_of_mem _ (isX100 w h)) hown hK hI.1 0 rfl rfl 1 (by decide) (hts _ (List.mem_cons_of_mem _ mw15)) (fun _ h9 => h9) rfl dX10_isAtStop_1 ?_
  refine cx_Vi (As := []) (rest := []) C (c_cRegisters_pc l g st ) (cwV 0 hts (gd_V _ mw735 mw313 mw314 mw14 mw315) rfl rfl rfl yd_yX6_pc ⟨Nat.le_of_ble_eq_true rfl, Nat.le_of_ble_eq_true rfl⟩) (va_recv hK hI.1 (ci := 6) (q0 := 2) rfl rfl) hI rfl hl.1 rfl (Nat.le_of_ble_eq_true rfl) dX10_isAtStop_4 (fun H locs hI => ?_)
  refine lv_aload_n hx hb dX10_isAtStop_7 rfl (lv_at hl 0 rfl) ?_
  refine va_get (D := gD g) (ci := 10) (C := RX10) (T := TX10) (N := 13) (v := .int (gI st 0)) hx hb hts (fun w h => List.mem_cons_of_mem _ (isX100 w h)) hown hK hI.1 0 rfl rfl 10 (by decide) (hts _ (List.mem_cons_of_mem _ mw48)) (fun _ h9 => h9) rfl dX10_isAtStop_8 ?_
  refine lv_icmp_ne (tgt := 18) hx hb dX10_isAtStop_11 (by decide) (fun c_11 => ?_) (fun c_11 => ?_)
  · have hF := hF.trans (if_neg c_11)
    refine lv_iconst (v := (0 : Int32)) hx hb dX10_isAtStop_18 (by decide) ?_
    exact cx_zret C hI rfl hF rfl dX10_isAtStop_19
  · have hF := hF.trans (if_pos c_11)
    refine lv_iconst (v := (1 : Int32)) hx hb dX10_isAtStop_14 (by decide) ?_
    refine lv_goto (tgt := 19) hx hb dX10_isAtStop_15 (by decide) ?_
    exact cx_zret C hI rfl hF rfl dX10_isAtStop_19
set_option maxHeartbeats 4000000 in
set_option maxRecDepth 100000 in
theorem c_cPageBoard_isAtStop (l : Launch) (g : Gm) (st : CS) : Mi l yX10_isAtStop wq_X10_isAtStop rm_cPageBoard_isAtStop (gD g) vwCl (cty g) (cw g) (cz g) [.ref (gad g 0)] st st (cPageBoard_isAtStop st) := by
  intro sz
  refine Met.ofW (cc := cX10_isAtStop) (maxL := 1) (ret := (some .boolean)) (by decide) rfl ?_
  intro p e s m args below meth c s₁ B hml hv
  obtain ⟨rfl, hsz, hP, hK, hD0, hZ⟩ := hv
  subst hsz
  have hl := lv_entry ([.ref (gad g 0)]) (n := 1) (Nat.le_of_ble_eq_true rfl)
  rw [lg_entry_eq]
  generalize (lg_sl ([.ref (gad g 0)]) ++ List.replicate (1 - (lg_sl ([.ref (gad g 0)])).length) Slot.unset).toArray = ls at hl ⊢
  exact k_cPageBoard_isAtStop g ⟨B.exec, B.bytes, B.returns, hml, findClass_of_methodNamed B.named, atoms_spec (ws := wq_X10_isAtStop) B.pre, B.notSynchronized, hK, fun q h => Or.inr h, hZ, cz_ok g⟩ st  _ _ ls ⟨hP, hD0.self, va_S.rf⟩ hl _ rfl
abbrev wq_X10_devicesGoOn : List Cond := .code yX10_devicesGoOn cX10_devicesGoOn 2 none :: wAll
theorem yd_yX10_devicesGoOn : yX10_devicesGoOn.cls = RX10 ∧ yX10_devicesGoOn.cls ≠ "java/lang/invoke/MethodHandle" ∧ yX10_devicesGoOn.cls ≠ "java/lang/invoke/VarHandle" ∧ (parseMethodDescriptor yX10_devicesGoOn.desc).map (fun d => d.parameters.length) = some 1 := by decide +kernel
abbrev rm_cPageBoard_devicesGoOn : Room := { frames := 3, cells := 0, slots := 0, locals := 83 }
def cPageBoard_devicesGoOn_b60 (st : CS) (x1 : Int32) : CS := (cDisk_goOn st x1)
set_option maxHeartbeats 4000000 in
set_option maxRecDepth 100000 in
theorem k_cPageBoard_devicesGoOn_b60 {p : Program} {l : Launch} {e : Env} {s : State} {m : MethodId} {args : Array Value} {below : List Frame} {meth : Method} {c : Code} {A : Nat → Prop} (g : Gm) (C : cX p s m args meth c A cX10_devicesGoOn none 2 RX10 wq_X10_devicesGoOn (gD g) vwCl (cty g) (cz g)) (st : CS) (x1 : Int32) (H : Heap) (locs : List Loc) (ls : Array Slot) (hI : cI (gD g) vwCl (cw g) A s st H locs) (hl : lv_has ls 2 [(0, .ref (gad g 0)), (1, .int x1)]) (X : CS) (hF : X = cPageBoard_devicesGoOn_b60 st x1) : W p l e rm_cPageBoard_devicesGoOn s m args below meth c H locs 0 0 (MQ below (cQv (gD g) vwCl (cty g) (cw g) A X) args s 0 0 A) (F0 m 60 ls []) := by
  obtain ⟨hx, hb, hr, hml, hown, hts, hlocks, hK, hA, hZ, hzo⟩ := id C
  unfold cPageBoard_devicesGoOn_b60 at hF
  refine lv_aload_n hx hb dX10_devicesGoOn_60 rfl (lv_at hl 0 rfl) ?_
  refine va_get (D := gD g) (ci := 10) (C := RX10) (T := TX10) (N := 13) (v := .ref (gad g 10)) hx hb hts (fun w h => List.mem_cons_of_mem _ (isX100 w h)) hown hK hI.1 0 rfl rfl 5 (by decide) (hts _ (List.mem_cons_of_mem _ mw31)) (fun _ h9 => h9) rfl dX10_devicesGoOn_61 ?_
  refine lv_iload_n hx hb dX10_devicesGoOn_64 rfl (lv_at hl 1 rfl) ?_
  refine cx_Vv (As := [.int x1]) (rest := []) C (c_cDisk_goOn l g st x1) (cwV 1 hts (gd_V _ mw698 mw699 mw700 mw30 mw701) rfl rfl rfl yd_yX2_goOn ⟨Nat.le_of_ble_eq_true rfl, Nat.le_of_ble_eq_true rfl⟩) (va_recv hK hI.1 (ci := 2) (q0 := 10) rfl rfl) hI rfl hl.1 rfl (Nat.le_of_ble_eq_true rfl) dX10_devicesGoOn_65 (fun H locs hI => ?_)
  exact cx_vret C hI hF dX10_devicesGoOn_68
def cPageBoard_devicesGoOn_b49 (st : CS) : CS := st
set_option maxHeartbeats 4000000 in
set_option maxRecDepth 100000 in
theorem k_cPageBoard_devicesGoOn_b49 {p : Program} {l : Launch} {e : Env} {s : State} {m : MethodId} {args : Array Value} {below : List Frame} {meth : Method} {c : Code} {A : Nat → Prop} (g : Gm) (C : cX p s m args meth c A cX10_devicesGoOn none 2 RX10 wq_X10_devicesGoOn (gD g) vwCl (cty g) (cz g)) (st : CS) (H : Heap) (locs : List Loc) (ls : Array Slot) (hI : cI (gD g) vwCl (cw g) A s st H locs) (hl : lv_has ls 2 [(0, .ref (gad g 0))]) (X : CS) (hF : X = cPageBoard_devicesGoOn_b49 st ) : W p l e rm_cPageBoard_devicesGoOn s m args below meth c H locs 0 0 (MQ below (cQv (gD g) vwCl (cty g) (cw g) A X) args s 0 0 A) (F0 m 49 ls []) := by
  obtain ⟨hx, hb, hr, hml, hown, hts, hlocks, hK, hA, hZ, hzo⟩ := id C
  unfold cPageBoard_devicesGoOn_b49 at hF
  refine lv_goto (tgt := 68) hx hb dX10_devicesGoOn_49 (by decide) ?_
  exact cx_vret C hI hF dX10_devicesGoOn_68
def cPageBoard_devicesGoOn_b41 (st : CS) (x1 : Int32) : CS := (cPageBoard_devicesGoOn_b49 (cScreen_goOn st x1) )
set_option maxHeartbeats 4000000 in
set_option maxRecDepth 100000 in
theorem k_cPageBoard_devicesGoOn_b41 {p : Program} {l : Launch} {e : Env} {s : State} {m : MethodId} {args : Array Value} {below : List Frame} {meth : Method} {c : Code} {A : Nat → Prop} (g : Gm) (C : cX p s m args meth c A cX10_devicesGoOn none 2 RX10 wq_X10_devicesGoOn (gD g) vwCl (cty g) (cz g)) (st : CS) (x1 : Int32) (H : Heap) (locs : List Loc) (ls : Array Slot) (hI : cI (gD g) vwCl (cw g) A s st H locs) (hl : lv_has ls 2 [(0, .ref (gad g 0)), (1, .int x1)]) (X : CS) (hF : X = cPageBoard_devicesGoOn_b41 st x1) : W p l e rm_cPageBoard_devicesGoOn s m args below meth c H locs 0 0 (MQ below (cQv (gD g) vwCl (cty g) (cw g) A X) args s 0 0 A) (F0 m 41 ls []) := by
  obtain ⟨hx, hb, hr, hml, hown, hts, hlocks, hK, hA, hZ, hzo⟩ := id C
  unfold cPageBoard_devicesGoOn_b41 at hF
  refine lv_aload_n hx hb dX10_devicesGoOn_41 rfl (lv_at hl 0 rfl) ?_
  refine va_get (D := gD g) (ci := 10) (C := RX10) (T := TX10) (N := 13) (v := .ref (gad g 15)) hx hb hts (fun w h => List.mem_cons_of_mem _ (isX100 w h)) hown hK hI.1 0 rfl rfl 7 (by decide) (hts _ (List.mem_cons_of_mem _ mw39)) (fun _ h9 => h9) rfl dX10_devicesGoOn_42 ?_
  refine lv_iload_n hx hb dX10_devicesGoOn_45 rfl (lv_at hl 1 rfl) ?_
  refine cx_Vv (As := [.int x1]) (rest := []) C (c_cScreen_goOn l g st x1) (cwV 1 hts (gd_V _ mw712 mw713 mw714 mw38 mw715) rfl rfl rfl yd_yX7_goOn ⟨Nat.le_of_ble_eq_true rfl, Nat.le_of_ble_eq_true rfl⟩) (va_recv hK hI.1 (ci := 7) (q0 := 15) rfl rfl) hI rfl hl.1 rfl (Nat.le_of_ble_eq_true rfl) dX10_devicesGoOn_46 (fun H locs hI => ?_)
  exact k_cPageBoard_devicesGoOn_b49 g C (cScreen_goOn st x1)  H locs ls hI (lv_sub hl [0] rfl) X hF
def cPageBoard_devicesGoOn_b16 (st : CS) (x1 : Int32) : CS := (if ((gI st 30) < (gI st 16)) then (cPageBoard_devicesGoOn_b60 (cScreen_goOn st x1) x1) else (cPageBoard_devicesGoOn_b41 (cDisk_goOn st x1) x1))
set_option maxHeartbeats 4000000 in
set_option maxRecDepth 100000 in
theorem k_cPageBoard_devicesGoOn_b16 {p : Program} {l : Launch} {e : Env} {s : State} {m : MethodId} {args : Array Value} {below : List Frame} {meth : Method} {c : Code} {A : Nat → Prop} (g : Gm) (C : cX p s m args meth c A cX10_devicesGoOn none 2 RX10 wq_X10_devicesGoOn (gD g) vwCl (cty g) (cz g)) (st : CS) (x1 : Int32) (H : Heap) (locs : List Loc) (ls : Array Slot) (hI : cI (gD g) vwCl (cw g) A s st H locs) (hl : lv_has ls 2 [(0, .ref (gad g 0)), (1, .int x1)]) (X : CS) (hF : X = cPageBoard_devicesGoOn_b16 st x1) : W p l e rm_cPageBoard_devicesGoOn s m args below meth c H locs 0 0 (MQ below (cQv (gD g) vwCl (cty g) (cw g) A X) args s 0 0 A) (F0 m 16 ls []) := by
  obtain ⟨hx, hb, hr, hml, hown, hts, hlocks, hK, hA, hZ, hzo⟩ := id C
  unfold cPageBoard_devicesGoOn_b16 at hF
  refine lv_aload_n hx hb dX10_devicesGoOn_16 rfl (lv_at hl 0 rfl) ?_
  refine va_get (D := gD g) (ci := 10) (C := RX10) (T := TX10) (N := 13) (v := .ref (gad g 10)) hx hb hts (fun w h => List.mem_cons_of_mem _ (isX100 w h)) hown hK hI.1 0 rfl rfl 5 (by decide) (hts _ (List.mem_cons_of_mem _ mw31)) (fun _ h9 => h9) rfl dX10_devicesGoOn_17 ?_
  refine va_get (D := gD g) (ci := 2) (C := RX2) (T := TX2) (N := 11) (v := .int (gI st 16)) hx hb hts (fun w h => List.mem_cons_of_mem _ (isX20 w h)) hown hK hI.1 10 rfl rfl 9 (by decide) (hts _ (List.mem_cons_of_mem _ mw679)) (fun _ h9 => h9) rfl dX10_devicesGoOn_20 ?_
  refine lv_aload_n hx hb dX10_devicesGoOn_23 rfl (lv_at hl 0 rfl) ?_
  refine va_get (D := gD g) (ci := 10) (C := RX10) (T := TX10) (N := 13) (v := .ref (gad g 15)) hx hb hts (fun w h => List.mem_cons_of_mem _ (isX100 w h)) hown hK hI.1 0 rfl rfl 7 (by decide) (hts _ (List.mem_cons_of_mem _ mw39)) (fun _ h9 => h9) rfl dX10_devicesGoOn_24 ?_
  refine va_get (D := gD g) (ci := 7) (C := RX7) (T := TX7) (N := 12) (v := .int (gI st 30)) hx hb hts (fun w h => List.mem_cons_of_mem _ (isX70 w h)) hown hK hI.1 15 rfl rfl 10 (by decide) (hts _ (List.mem_cons_of_mem _ mw680)) (fun _ h9 => h9) rfl dX10_devicesGoOn_27 ?_
  refine lv_icmp_gt (tgt := 52) hx hb dX10_devicesGoOn_30 (by decide) (fun c_30 => ?_) (fun c_30 => ?_)
  · have hF := hF.trans (if_pos c_30)
    refine lv_aload_n hx hb dX10_devicesGoOn_52 rfl (lv_at hl 0 rfl) ?_
    refine va_get (D := gD g) (ci := 10) (C := RX10) (T := TX10) (N := 13) (v := .ref (gad g 15)) hx hb hts (fun w h => List.mem_cons_of_mem _ (isX100 w h)) hown hK hI.1 0 rfl rfl 7 (by decide) (hts _ (List.mem_cons_of_mem _ mw39)) (fun _ h9 => h9) rfl dX10_devicesGoOn_53 ?_
    refine lv_iload_n hx hb dX10_devicesGoOn_56 rfl (lv_at hl 1 rfl) ?_
    refine cx_Vv (As := [.int x1]) (rest := []) C (c_cScreen_goOn l g st x1) (cwV 1 hts (gd_V _ mw712 mw713 mw714 mw38 mw715) rfl rfl rfl yd_yX7_goOn ⟨Nat.le_of_ble_eq_true rfl, Nat.le_of_ble_eq_true rfl⟩) (va_recv hK hI.1 (ci := 7) (q0 := 15) rfl rfl) hI rfl hl.1 rfl (Nat.le_of_ble_eq_true rfl) dX10_devicesGoOn_57 (fun H locs hI => ?_)
    exact k_cPageBoard_devicesGoOn_b60 g C (cScreen_goOn st x1) x1 H locs ls hI (lv_sub hl [0, 1] rfl) X hF
  · have hF := hF.trans (if_neg c_30)
    refine lv_aload_n hx hb dX10_devicesGoOn_33 rfl (lv_at hl 0 rfl) ?_
    refine va_get (D := gD g) (ci := 10) (C := RX10) (T := TX10) (N := 13) (v := .ref (gad g 10)) hx hb hts (fun w h => List.mem_cons_of_mem _ (isX100 w h)) hown hK hI.1 0 rfl rfl 5 (by decide) (hts _ (List.mem_cons_of_mem _ mw31)) (fun _ h9 => h9) rfl dX10_devicesGoOn_34 ?_
    refine lv_iload_n hx hb dX10_devicesGoOn_37 rfl (lv_at hl 1 rfl) ?_
    refine cx_Vv (As := [.int x1]) (rest := []) C (c_cDisk_goOn l g st x1) (cwV 1 hts (gd_V _ mw698 mw699 mw700 mw30 mw701) rfl rfl rfl yd_yX2_goOn ⟨Nat.le_of_ble_eq_true rfl, Nat.le_of_ble_eq_true rfl⟩) (va_recv hK hI.1 (ci := 2) (q0 := 10) rfl rfl) hI rfl hl.1 rfl (Nat.le_of_ble_eq_true rfl) dX10_devicesGoOn_38 (fun H locs hI => ?_)
    exact k_cPageBoard_devicesGoOn_b41 g C (cDisk_goOn st x1) x1 H locs ls hI (lv_sub hl [0, 1] rfl) X hF
def cPageBoard_devicesGoOn_b8 (st : CS) (x1 : Int32) : CS := (cPageBoard_devicesGoOn_b16 (cSerial_goOn st x1) x1)
set_option maxHeartbeats 4000000 in
set_option maxRecDepth 100000 in
theorem k_cPageBoard_devicesGoOn_b8 {p : Program} {l : Launch} {e : Env} {s : State} {m : MethodId} {args : Array Value} {below : List Frame} {meth : Method} {c : Code} {A : Nat → Prop} (g : Gm) (C : cX p s m args meth c A cX10_devicesGoOn none 2 RX10 wq_X10_devicesGoOn (gD g) vwCl (cty g) (cz g)) (st : CS) (x1 : Int32) (H : Heap) (locs : List Loc) (ls : Array Slot) (hI : cI (gD g) vwCl (cw g) A s st H locs) (hl : lv_has ls 2 [(0, .ref (gad g 0)), (1, .int x1)]) (X : CS) (hF : X = cPageBoard_devicesGoOn_b8 st x1) : W p l e rm_cPageBoard_devicesGoOn s m args below meth c H locs 0 0 (MQ below (cQv (gD g) vwCl (cty g) (cw g) A X) args s 0 0 A) (F0 m 8 ls []) := by
  obtain ⟨hx, hb, hr, hml, hown, hts, hlocks, hK, hA, hZ, hzo⟩ := id C
  unfold cPageBoard_devicesGoOn_b8 at hF
  refine lv_aload_n hx hb dX10_devicesGoOn_8 rfl (lv_at hl 0 rfl) ?_
  refine va_get (D := gD g) (ci := 10) (C := RX10) (T := TX10) (N := 13) (v := .ref (gad g 8)) hx hb hts (fun w h => List.mem_cons_of_mem _ (isX100 w h)) hown hK hI.1 0 rfl rfl 4 (by decide) (hts _ (List.mem_cons_of_mem _ mw27)) (fun _ h9 => h9) rfl dX10_devicesGoOn_9 ?_
  refine lv_iload_n hx hb dX10_devicesGoOn_12 rfl (lv_at hl 1 rfl) ?_
  refine cx_Vv (As := [.int x1]) (rest := []) C (c_cSerial_goOn l g st x1) (cwV 1 hts (gd_V _ mw694 mw695 mw696 mw26 mw697) rfl rfl rfl yd_yX8_goOn ⟨Nat.le_of_ble_eq_true rfl, Nat.le_of_ble_eq_true rfl⟩) (va_recv hK hI.1 (ci := 8) (q0 := 8) rfl rfl) hI rfl hl.1 rfl (Nat.le_of_ble_eq_true rfl) dX10_devicesGoOn_13 (fun H locs hI => ?_)
  exact k_cPageBoard_devicesGoOn_b16 g C (cSerial_goOn st x1) x1 H locs ls hI (lv_sub hl [0, 1] rfl) X hF
def cPageBoard_devicesGoOn (st : CS) (x1 : Int32) : CS := (cPageBoard_devicesGoOn_b8 (cController_goOn st x1) x1)
set_option maxHeartbeats 4000000 in
set_option maxRecDepth 100000 in
theorem k_cPageBoard_devicesGoOn {p : Program} {l : Launch} {e : Env} {s : State} {m : MethodId} {args : Array Value} {below : List Frame} {meth : Method} {c : Code} {A : Nat → Prop} (g : Gm) (C : cX p s m args meth c A cX10_devicesGoOn none 2 RX10 wq_X10_devicesGoOn (gD g) vwCl (cty g) (cz g)) (st : CS) (x1 : Int32) (H : Heap) (locs : List Loc) (ls : Array Slot) (hI : cI (gD g) vwCl (cw g) A s st H locs) (hl : lv_has ls 2 [(0, .ref (gad g 0)), (1, .int x1)]) (X : CS) (hF : X = cPageBoard_devicesGoOn st x1) : W p l e rm_cPageBoard_devicesGoOn s m args below meth c H locs 0 0 (MQ below (cQv (gD g) vwCl (cty g) (cw g) A X) args s 0 0 A) (F0 m 0 ls []) := by
  obtain ⟨hx, hb, hr, hml, hown, hts, hlocks, hK, hA, hZ, hzo⟩ := id C
  unfold cPageBoard_devicesGoOn at hF
  refine lv_aload_n hx hb dX10_devicesGoOn_0 rfl (lv_at hl 0 rfl) ?_
  refine va_get (D := gD g) (ci := 10) (C := RX10) (T := TX10) (N := 13) (v := .ref (gad g 12)) hx hb hts (fun w h => List.mem_cons_of_mem _ (isX100 w h)) hown hK hI.1 0 rfl rfl 6 (by decide) (hts _ (List.mem_cons_of_mem _ mw35)) (fun _ h9 => h9) rfl dX10_devicesGoOn_1 ?_
  refine lv_iload_n hx hb dX10_devicesGoOn_4 rfl (lv_at hl 1 rfl) ?_
  refine cx_Vv (As := [.int x1]) (rest := []) C (c_cController_goOn l g st x1) (cwV 1 hts (gd_V _ mw681 mw682 mw683 mw34 mw684) rfl rfl rfl yd_yX1_goOn ⟨Nat.le_of_ble_eq_true rfl, Nat.le_of_ble_eq_true rfl⟩) (va_recv hK hI.1 (ci := 1) (q0 := 12) rfl rfl) hI rfl hl.1 rfl (Nat.le_of_ble_eq_true rfl) dX10_devicesGoOn_5 (fun H locs hI => ?_)
  exact k_cPageBoard_devicesGoOn_b8 g C (cController_goOn st x1) x1 H locs ls hI (lv_sub hl [0, 1] rfl) X hF
set_option maxHeartbeats 4000000 in
set_option maxRecDepth 100000 in
theorem c_cPageBoard_devicesGoOn (l : Launch) (g : Gm) (st : CS) (x1 : Int32) : Mv l yX10_devicesGoOn wq_X10_devicesGoOn rm_cPageBoard_devicesGoOn (gD g) vwCl (cty g) (cw g) (cz g) [.ref (gad g 0), .int x1] st (cPageBoard_devicesGoOn st x1) := by
  intro sz
  refine Met.ofW (cc := cX10_devicesGoOn) (maxL := 2) (ret := none) (by decide) rfl ?_
  intro p e s m args below meth c s₁ B hml hv
  obtain ⟨rfl, hsz, hP, hK, hD0, hZ⟩ := hv
  subst hsz
  have hl := lv_entry ([.ref (gad g 0), .int x1]) (n := 2) (Nat.le_of_ble_eq_true rfl)
  rw [lg_entry_eq]
  generalize (lg_sl ([.ref (gad g 0), .int x1]) ++ List.replicate (2 - (lg_sl ([.ref (gad g 0), .int x1])).length) Slot.unset).toArray = ls at hl ⊢
  exact k_cPageBoard_devicesGoOn g ⟨B.exec, B.bytes, B.returns, hml, findClass_of_methodNamed B.named, atoms_spec (ws := wq_X10_devicesGoOn) B.pre, B.notSynchronized, hK, fun q h => Or.inr h, hZ, cz_ok g⟩ st x1 _ _ ls ⟨hP, hD0.self, va_S.rf⟩ hl _ rfl
abbrev wq_X10_oneStep : List Cond := .code yX10_oneStep cX10_oneStep 3 (some .int) :: wAll
theorem yd_yX10_oneStep : yX10_oneStep.cls = RX10 ∧ yX10_oneStep.cls ≠ "java/lang/invoke/MethodHandle" ∧ yX10_oneStep.cls ≠ "java/lang/invoke/VarHandle" ∧ (parseMethodDescriptor yX10_oneStep.desc).map (fun d => d.parameters.length) = some 0 := by decide +kernel
abbrev rm_cPageBoard_oneStep : Room := { frames := 6, cells := 0, slots := 0, locals := 144 }
def cPageBoard_oneStep_b31 (st : CS) (y0 : Int32) : CS × Int32 := ((cPageBoard_devicesGoOn (sL (sL st 1 ((gL st 1) + (1 : Int64))) 0 ((gL st 0) + (y0.toInt64))) y0), y0)
set_option maxHeartbeats 4000000 in
set_option maxRecDepth 100000 in
theorem k_cPageBoard_oneStep_b31 {p : Program} {l : Launch} {e : Env} {s : State} {m : MethodId} {args : Array Value} {below : List Frame} {meth : Method} {c : Code} {A : Nat → Prop} (g : Gm) (C : cX p s m args meth c A cX10_oneStep (some .int) 3 RX10 wq_X10_oneStep (gD g) vwCl (cty g) (cz g)) (st : CS) (y0 : Int32) (H : Heap) (locs : List Loc) (ls : Array Slot) (hI : cI (gD g) vwCl (cw g) A s st H locs) (hl : lv_has ls 3 [(0, .ref (gad g 0))]) (X : CS × Int32) (hF : X = cPageBoard_oneStep_b31 st y0) : W p l e rm_cPageBoard_oneStep s m args below meth c H locs 0 0 (MQ below (cQi (gD g) vwCl (cty g) (cw g) A X.1 X.2) args s 0 0 A) (F0 m 31 ls [.int y0]) := by
  obtain ⟨hx, hb, hr, hml, hown, hts, hlocks, hK, hA, hZ, hzo⟩ := id C
  unfold cPageBoard_oneStep_b31 at hF
  refine lv_istore_n (lv' := [(2, .int y0), (0, .ref (gad g 0))]) hx hb dX10_oneStep_31 rfl hl (by decide) rfl (fun ls hl => ?_)
  refine lv_aload_n hx hb dX10_oneStep_32 rfl (lv_at hl 1 rfl) ?_
  refine lv_dup hx hb dX10_oneStep_33 rfl ?_
  refine va_get (D := gD g) (ci := 10) (C := RX10) (T := TX10) (N := 13) (v := .long (gL st 1)) hx hb hts (fun w h => List.mem_cons_of_mem _ (isX100 w h)) hown hK hI.1 0 rfl rfl 12 (by decide) (hts _ (List.mem_cons_of_mem _ mw302)) (fun _ h9 => h9) rfl dX10_oneStep_34 ?_
  refine lv_lconst (v := (1 : Int64)) hx hb dX10_oneStep_37 (by decide) ?_
  refine lv_ladd hx hb dX10_oneStep_38 ?_
  refine va_put (D := gD g) (ci := 10) (C := RX10) (T := TX10) (N := 13) (v := .long ((gL st 1) + (1 : Int64))) (ty := .long) hx hb hts (fun w h => List.mem_cons_of_mem _ (isX100 w h)) tyX10 tyX10_ok nmX10 hown hK hI.1 hI.2.1 hI.2.2 0 rfl rfl 12 (by decide) (hts _ (List.mem_cons_of_mem _ mw302)) (fun _ h9 => h9) rfl (by decide +kernel) rfl rfl (Nat.le_of_ble_eq_true rfl) dX10_oneStep_39 (fun H locs hP hD hS => ?_)
  have hI : cI (gD g) vwCl (cw g) A s (sL st 1 ((gL st 1) + (1 : Int64))) H locs := ⟨hP, hD, hS⟩
  refine lv_aload_n hx hb dX10_oneStep_42 rfl (lv_at hl 1 rfl) ?_
  refine lv_dup hx hb dX10_oneStep_43 rfl ?_
  refine va_get (D := gD g) (ci := 10) (C := RX10) (T := TX10) (N := 13) (v := .long (gL st 0)) hx hb hts (fun w h => List.mem_cons_of_mem _ (isX100 w h)) hown hK hI.1 0 rfl rfl 11 (by decide) (hts _ (List.mem_cons_of_mem _ mw303)) (fun _ h9 => h9) rfl dX10_oneStep_44 ?_
  refine lv_iload_n hx hb dX10_oneStep_47 rfl (lv_at hl 0 rfl) ?_
  refine lv_i2l (v := (y0.toInt64)) hx hb dX10_oneStep_48 rfl ?_
  refine lv_ladd hx hb dX10_oneStep_49 ?_
  refine va_put (D := gD g) (ci := 10) (C := RX10) (T := TX10) (N := 13) (v := .long ((gL st 0) + (y0.toInt64))) (ty := .long) hx hb hts (fun w h => List.mem_cons_of_mem _ (isX100 w h)) tyX10 tyX10_ok nmX10 hown hK hI.1 hI.2.1 hI.2.2 0 rfl rfl 11 (by decide) (hts _ (List.mem_cons_of_mem _ mw303)) (fun _ h9 => h9) rfl (by decide +kernel) rfl rfl (Nat.le_of_ble_eq_true rfl) dX10_oneStep_50 (fun H locs hP hD hS => ?_)
  have hI : cI (gD g) vwCl (cw g) A s (sL (sL st 1 ((gL st 1) + (1 : Int64))) 0 ((gL st 0) + (y0.toInt64))) H locs := ⟨hP, hD, hS⟩
  refine lv_aload_n hx hb dX10_oneStep_53 rfl (lv_at hl 1 rfl) ?_
  refine lv_iload_n hx hb dX10_oneStep_54 rfl (lv_at hl 0 rfl) ?_
  refine cx_Vv (As := [.int y0]) (rest := []) C (c_cPageBoard_devicesGoOn l g (sL (sL st 1 ((gL st 1) + (1 : Int64))) 0 ((gL st 0) + (y0.toInt64))) y0) (cwV 1 hts (gd_V _ mw675 mw676 mw677 mw1 mw678) rfl rfl rfl yd_yX10_devicesGoOn ⟨Nat.le_of_ble_eq_true rfl, Nat.le_of_ble_eq_true rfl⟩) (va_recv hK hI.1 (ci := 10) (q0 := 0) rfl rfl) hI rfl hl.1 rfl (Nat.le_of_ble_eq_true rfl) dX10_oneStep_55 (fun H locs hI => ?_)
  refine lv_iload_n hx hb dX10_oneStep_58 rfl (lv_at hl 0 rfl) ?_
  exact cx_iret C hI (congrArg Prod.fst hF) (congrArg Prod.snd hF) dX10_oneStep_59
def cPageBoard_oneStep_b20 (st : CS) (y0 : Int32) : CS × Int32 := (cPageBoard_oneStep_b31 st y0)
set_option maxHeartbeats 4000000 in
set_option maxRecDepth 100000 in
theorem k_cPageBoard_oneStep_b20 {p : Program} {l : Launch} {e : Env} {s : State} {m : MethodId} {args : Array Value} {below : List Frame} {meth : Method} {c : Code} {A : Nat → Prop} (g : Gm) (C : cX p s m args meth c A cX10_oneStep (some .int) 3 RX10 wq_X10_oneStep (gD g) vwCl (cty g) (cz g)) (st : CS) (y0 : Int32) (H : Heap) (locs : List Loc) (ls : Array Slot) (hI : cI (gD g) vwCl (cw g) A s st H locs) (hl : lv_has ls 3 [(0, .ref (gad g 0))]) (X : CS × Int32) (hF : X = cPageBoard_oneStep_b20 st y0) : W p l e rm_cPageBoard_oneStep s m args below meth c H locs 0 0 (MQ below (cQi (gD g) vwCl (cty g) (cw g) A X.1 X.2) args s 0 0 A) (F0 m 20 ls [.int y0]) := by
  obtain ⟨hx, hb, hr, hml, hown, hts, hlocks, hK, hA, hZ, hzo⟩ := id C
  unfold cPageBoard_oneStep_b20 at hF
  refine lv_goto (tgt := 31) hx hb dX10_oneStep_20 (by decide) ?_
  exact k_cPageBoard_oneStep_b31 g C st y0 H locs ls hI (lv_sub hl [0] rfl) X hF
def cPageBoard_oneStep_b7 (st : CS) (y0 : Int32) : CS × Int32 := (if (y0 = (-1 : Int32)) then (cPageBoard_oneStep_b20 (cProcessor_instruction st).1 (cProcessor_instruction st).2) else (cPageBoard_oneStep_b31 (cProcessor_take st y0).1 (cProcessor_take st y0).2))
set_option maxHeartbeats 4000000 in
set_option maxRecDepth 100000 in
theorem k_cPageBoard_oneStep_b7 {p : Program} {l : Launch} {e : Env} {s : State} {m : MethodId} {args : Array Value} {below : List Frame} {meth : Method} {c : Code} {A : Nat → Prop} (g : Gm) (C : cX p s m args meth c A cX10_oneStep (some .int) 3 RX10 wq_X10_oneStep (gD g) vwCl (cty g) (cz g)) (st : CS) (y0 : Int32) (H : Heap) (locs : List Loc) (ls : Array Slot) (hI : cI (gD g) vwCl (cw g) A s st H locs) (hl : lv_has ls 3 [(0, .ref (gad g 0))]) (X : CS × Int32) (hF : X = cPageBoard_oneStep_b7 st y0) : W p l e rm_cPageBoard_oneStep s m args below meth c H locs 0 0 (MQ below (cQi (gD g) vwCl (cty g) (cw g) A X.1 X.2) args s 0 0 A) (F0 m 7 ls [.int y0]) := by
  obtain ⟨hx, hb, hr, hml, hown, hts, hlocks, hK, hA, hZ, hzo⟩ := id C
  unfold cPageBoard_oneStep_b7 at hF
  refine lv_istore_n (lv' := [(1, .int y0), (0, .ref (gad g 0))]) hx hb dX10_oneStep_7 rfl hl (by decide) rfl (fun ls hl => ?_)
  refine lv_iload_n hx hb dX10_oneStep_8 rfl (lv_at hl 0 rfl) ?_
  refine lv_iconst (v := (-1 : Int32)) hx hb dX10_oneStep_9 (by decide) ?_
  refine lv_icmp_ne (tgt := 23) hx hb dX10_oneStep_10 (by decide) (fun c_10 => ?_) (fun c_10 => ?_)
  · have hF := hF.trans (if_neg c_10)
    refine lv_aload_n hx hb dX10_oneStep_23 rfl (lv_at hl 1 rfl) ?_
    refine va_get (D := gD g) (ci := 10) (C := RX10) (T := TX10) (N := 13) (v := .ref (gad g 19)) hx hb hts (fun w h => List.mem_cons_of_mem _ (isX100 w h)) hown hK hI.1 0 rfl rfl 9 (by decide) (hts _ (List.mem_cons_of_mem _ mw47)) (fun _ h9 => h9) rfl dX10_oneStep_24 ?_
    refine lv_iload_n hx hb dX10_oneStep_27 rfl (lv_at hl 0 rfl) ?_
    refine cx_Vi (As := [.int y0]) (rest := []) C (c_cProcessor_take l g st y0) (cwV 1 hts (gd_V _ mw674 mw402 mw403 mw46 mw404) rfl rfl rfl yd_yX5_take ⟨Nat.le_of_ble_eq_true rfl, Nat.le_of_ble_eq_true rfl⟩) (va_recv hK hI.1 (ci := 5) (q0 := 19) rfl rfl) hI rfl hl.1 rfl (Nat.le_of_ble_eq_true rfl) dX10_oneStep_28 (fun H locs hI => ?_)
    exact k_cPageBoard_oneStep_b31 g C (cProcessor_take st y0).1 (cProcessor_take st y0).2 H locs ls hI (lv_sub hl [1] rfl) X hF
  · have hF := hF.trans (if_pos c_10)
    refine lv_aload_n hx hb dX10_oneStep_13 rfl (lv_at hl 1 rfl) ?_
    refine va_get (D := gD g) (ci := 10) (C := RX10) (T := TX10) (N := 13) (v := .ref (gad g 19)) hx hb hts (fun w h => List.mem_cons_of_mem _ (isX100 w h)) hown hK hI.1 0 rfl rfl 9 (by decide) (hts _ (List.mem_cons_of_mem _ mw47)) (fun _ h9 => h9) rfl dX10_oneStep_14 ?_
    refine cx_Vi (As := []) (rest := []) C (c_cProcessor_instruction l g st ) (cwV 0 hts (gd_V _ mw354 mw355 mw356 mw46 mw357) rfl rfl rfl yd_yX5_instruction ⟨Nat.le_of_ble_eq_true rfl, Nat.le_of_ble_eq_true rfl⟩) (va_recv hK hI.1 (ci := 5) (q0 := 19) rfl rfl) hI rfl hl.1 rfl (Nat.le_of_ble_eq_true rfl) dX10_oneStep_17 (fun H locs hI => ?_)
    exact k_cPageBoard_oneStep_b20 g C (cProcessor_instruction st).1 (cProcessor_instruction st).2 H locs ls hI (lv_sub hl [1] rfl) X hF
def cPageBoard_oneStep (st : CS) : CS × Int32 := (cPageBoard_oneStep_b7 (cProcessor_trapAhead st).1 (cProcessor_trapAhead st).2)
set_option maxHeartbeats 4000000 in
set_option maxRecDepth 100000 in
theorem k_cPageBoard_oneStep {p : Program} {l : Launch} {e : Env} {s : State} {m : MethodId} {args : Array Value} {below : List Frame} {meth : Method} {c : Code} {A : Nat → Prop} (g : Gm) (C : cX p s m args meth c A cX10_oneStep (some .int) 3 RX10 wq_X10_oneStep (gD g) vwCl (cty g) (cz g)) (st : CS) (H : Heap) (locs : List Loc) (ls : Array Slot) (hI : cI (gD g) vwCl (cw g) A s st H locs) (hl : lv_has ls 3 [(0, .ref (gad g 0))]) (X : CS × Int32) (hF : X = cPageBoard_oneStep st) : W p l e rm_cPageBoard_oneStep s m args below meth c H locs 0 0 (MQ below (cQi (gD g) vwCl (cty g) (cw g) A X.1 X.2) args s 0 0 A) (F0 m 0 ls []) := by
  obtain ⟨hx, hb, hr, hml, hown, hts, hlocks, hK, hA, hZ, hzo⟩ := id C
  unfold cPageBoard_oneStep at hF
  refine lv_aload_n hx hb dX10_oneStep_0 rfl (lv_at hl 0 rfl) ?_
  refine va_get (D := gD g) (ci := 10) (C := RX10) (T := TX10) (N := 13) (v := .ref (gad g 19)) hx hb hts (fun w h => List.mem_cons_of_mem _ (isX100 w h)) hown hK hI.1 0 rfl rfl 9 (by decide) (hts _ (List.mem_cons_of_mem _ mw47)) (fun _ h9 => h9) rfl dX10_oneStep_1 ?_
  refine cx_Vi (As := []) (rest := []) C (c_cProcessor_trapAhead l g st ) (cwV 0 hts (gd_V _ mw304 mw305 mw306 mw46 mw307) rfl rfl rfl yd_yX5_trapAhead ⟨Nat.le_of_ble_eq_true rfl, Nat.le_of_ble_eq_true rfl⟩) (va_recv hK hI.1 (ci := 5) (q0 := 19) rfl rfl) hI rfl hl.1 rfl (Nat.le_of_ble_eq_true rfl) dX10_oneStep_4 (fun H locs hI => ?_)
  exact k_cPageBoard_oneStep_b7 g C (cProcessor_trapAhead st).1 (cProcessor_trapAhead st).2 H locs ls hI (lv_sub hl [0] rfl) X hF
set_option maxHeartbeats 4000000 in
set_option maxRecDepth 100000 in
theorem c_cPageBoard_oneStep (l : Launch) (g : Gm) (st : CS) : Mi l yX10_oneStep wq_X10_oneStep rm_cPageBoard_oneStep (gD g) vwCl (cty g) (cw g) (cz g) [.ref (gad g 0)] st (cPageBoard_oneStep st).1 (cPageBoard_oneStep st).2 := by
  intro sz
  refine Met.ofW (cc := cX10_oneStep) (maxL := 3) (ret := (some .int)) (by decide) rfl ?_
  intro p e s m args below meth c s₁ B hml hv
  obtain ⟨rfl, hsz, hP, hK, hD0, hZ⟩ := hv
  subst hsz
  have hl := lv_entry ([.ref (gad g 0)]) (n := 3) (Nat.le_of_ble_eq_true rfl)
  rw [lg_entry_eq]
  generalize (lg_sl ([.ref (gad g 0)]) ++ List.replicate (3 - (lg_sl ([.ref (gad g 0)])).length) Slot.unset).toArray = ls at hl ⊢
  exact k_cPageBoard_oneStep g ⟨B.exec, B.bytes, B.returns, hml, findClass_of_methodNamed B.named, atoms_spec (ws := wq_X10_oneStep) B.pre, B.notSynchronized, hK, fun q h => Or.inr h, hZ, cz_ok g⟩ st  _ _ ls ⟨hP, hD0.self, va_S.rf⟩ hl _ rfl
