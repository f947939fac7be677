abbrev wq_X0_find : List Cond := .code yX0_find cX0_find 5 (some .int) :: wAll
theorem yd_yX0_find : yX0_find.cls = RX0 ∧ yX0_find.cls ≠ "java/lang/invoke/MethodHandle" ∧ yX0_find.cls ≠ "java/lang/invoke/VarHandle" ∧ (parseMethodDescriptor yX0_find.desc).map (fun d => d.parameters.length) = some 3 := by decide +kernel
abbrev rm_cBus_find : Room := { frames := 1, cells := 0, slots := 0, locals := 22 }
def cBus_find_b44 (st : CS) (x2 : Int32) (x4 : Int32) : Int32 := ((x4 * (1024 : Int32)) + ((ushr x2 (2 : Int32)) &&& (1023 : Int32)))
set_option maxHeartbeats 4000000 in
set_option maxRecDepth 100000 in
theorem k_cBus_find_b44 {p : Program} {l : Launch} {e : Env} {s : State} {m : MethodId} {args : Array Value} {below : List Frame} {meth : Method} {c : Code} {A : Nat → Prop} (g : Gm) (C : cX p s m args meth c A cX0_find (some .int) 5 RX0 wq_X0_find (gD g) vwCl (cty g) (cz g)) (st : CS) (x2 : Int32) (x4 : Int32) (H : Heap) (locs : List Loc) (ls : Array Slot) (hI : cI (gD g) vwCl (cw g) A s st H locs) (hl : lv_has ls 5 [(0, .ref (gad g 18)), (2, .int x2), (4, .int x4)]) (X : Int32) (hF : X = cBus_find_b44 st x2 x4) : W p l e rm_cBus_find s m args below meth c H locs 0 0 (MQ below (cQi (gD g) vwCl (cty g) (cw g) A st X) args s 0 0 A) (F0 m 44 ls []) := by
  obtain ⟨hx, hb, hr, hml, hown, hts, hlocks, hK, hA, hZ, hzo⟩ := id C
  unfold cBus_find_b44 at hF
  refine lv_iload hx hb dX0_find_44 (lv_at hl 2 rfl) ?_
  refine lv_sipush (v := (1024 : Int32)) hx hb dX0_find_46 (by decide) ?_
  refine lv_imul hx hb dX0_find_49 ?_
  refine lv_iload_n hx hb dX0_find_50 rfl (lv_at hl 1 rfl) ?_
  refine lv_iconst (v := (2 : Int32)) hx hb dX0_find_51 (by decide) ?_
  refine lv_iushr (v := (ushr x2 (2 : Int32))) hx hb dX0_find_52 rfl ?_
  refine lv_sipush (v := (1023 : Int32)) hx hb dX0_find_53 (by decide) ?_
  refine lv_iand hx hb dX0_find_56 ?_
  refine lv_iadd hx hb dX0_find_57 ?_
  exact cx_iret C hI rfl hF dX0_find_58
def cBus_find (st : CS) (x1 : Int32) (x2 : Int32) (x3 : Int32) : Int32 := (if ((33554432 : Int32) ≤ x2) then (if (x1 = 0) then (-1 : Int32) else (if ((50331648 : Int32) ≤ x2) then (-2 : Int32) else ((ushr x2 (2 : Int32)) &&& (16383 : Int32)))) else (if ((cEntries_withNumber st (ushr x2 (12 : Int32))) = (-1 : Int32)) then (-1 : Int32) else (if (x1 = 0) then (if ((cEntries_letsUser st (cEntries_withNumber st (ushr x2 (12 : Int32))) x3) = 0) then (-1 : Int32) else (cBus_find_b44 st x2 (cEntries_withNumber st (ushr x2 (12 : Int32))))) else (cBus_find_b44 st x2 (cEntries_withNumber st (ushr x2 (12 : Int32)))))))
set_option maxHeartbeats 4000000 in
set_option maxRecDepth 100000 in
theorem k_cBus_find {p : Program} {l : Launch} {e : Env} {s : State} {m : MethodId} {args : Array Value} {below : List Frame} {meth : Method} {c : Code} {A : Nat → Prop} (g : Gm) (C : cX p s m args meth c A cX0_find (some .int) 5 RX0 wq_X0_find (gD g) vwCl (cty g) (cz g)) (st : CS) (x1 : Int32) (x2 : Int32) (x3 : Int32) (H : Heap) (locs : List Loc) (ls : Array Slot) (hI : cI (gD g) vwCl (cw g) A s st H locs) (hl : lv_has ls 5 [(0, .ref (gad g 18)), (1, .int x1), (2, .int x2), (3, .int x3)]) (X : Int32) (hF : X = cBus_find st x1 x2 x3) : W p l e rm_cBus_find s m args below meth c H locs 0 0 (MQ below (cQi (gD g) vwCl (cty g) (cw g) A st X) args s 0 0 A) (F0 m 0 ls []) := by
  obtain ⟨hx, hb, hr, hml, hown, hts, hlocks, hK, hA, hZ, hzo⟩ := id C
  unfold cBus_find at hF
  refine lv_iload_n hx hb dX0_find_0 rfl (lv_at hl 2 rfl) ?_
  refine lv_ldc (v := (33554432 : Int32)) hx hb hown (hts _ (List.mem_cons_of_mem _ mw337)) dX0_find_1 ?_
  refine lv_icmp_ge (tgt := 59) hx hb dX0_find_3 (by decide) (fun c_3 => ?_) (fun c_3 => ?_)
  · have hF := hF.trans (if_pos c_3)
    refine lv_iload_n hx hb dX0_find_59 rfl (lv_at hl 1 rfl) ?_
    refine lv_if_ne (tgt := 65) hx hb dX0_find_60 (by decide) (fun c_60 => ?_) (fun c_60 => ?_)
    · have hF := hF.trans (if_neg c_60)
      refine lv_iload_n hx hb dX0_find_65 rfl (lv_at hl 2 rfl) ?_
      refine lv_ldc (v := (50331648 : Int32)) hx hb hown (hts _ (List.mem_cons_of_mem _ mw338)) dX0_find_66 ?_
      refine lv_icmp_ge (tgt := 81) hx hb dX0_find_68 (by decide) (fun c_68 => ?_) (fun c_68 => ?_)
      · have hF := hF.trans (if_pos c_68)
        refine lv_bipush (v := (-2 : Int32)) hx hb dX0_find_81 (by decide) ?_
        exact cx_iret C hI rfl hF dX0_find_83
      · have hF := hF.trans (if_neg c_68)
        refine lv_iload_n hx hb dX0_find_71 rfl (lv_at hl 2 rfl) ?_
        refine lv_iconst (v := (2 : Int32)) hx hb dX0_find_72 (by decide) ?_
        refine lv_iushr (v := (ushr x2 (2 : Int32))) hx hb dX0_find_73 rfl ?_
        refine lv_sipush (v := (16383 : Int32)) hx hb dX0_find_74 (by decide) ?_
        refine lv_iand hx hb dX0_find_77 ?_
        refine lv_goto (tgt := 83) hx hb dX0_find_78 (by decide) ?_
        exact cx_iret C hI rfl hF dX0_find_83
    · have hF := hF.trans (if_pos c_60)
      refine lv_iconst (v := (-1 : Int32)) hx hb dX0_find_63 (by decide) ?_
      exact cx_iret C hI rfl hF dX0_find_64
  · have hF := hF.trans (if_neg c_3)
    refine lv_aload_n hx hb dX0_find_6 rfl (lv_at hl 0 rfl) ?_
    refine va_get (D := gD g) (ci := 0) (C := RX0) (T := TX0) (N := 5) (v := .ref (gad g 4)) hx hb hts (fun w h => List.mem_cons_of_mem _ (isX00 w h)) hown hK hI.1 18 rfl rfl 1 (by decide) (hts _ (List.mem_cons_of_mem _ mw102)) (fun _ h9 => h9) rfl dX0_find_7 ?_
    refine lv_iload_n hx hb dX0_find_10 rfl (lv_at hl 2 rfl) ?_
    refine lv_bipush (v := (12 : Int32)) hx hb dX0_find_11 (by decide) ?_
    refine lv_iushr (v := (ushr x2 (12 : Int32))) hx hb dX0_find_13 rfl ?_
    refine cx_Vi (As := [.int (ushr x2 (12 : Int32))]) (rest := []) C (c_cEntries_withNumber l g st (ushr x2 (12 : Int32))) (cwV 1 hts (gd_V _ mw339 mw340 mw341 mw18 mw342) rfl rfl rfl yd_yX3_withNumber ⟨Nat.le_of_ble_eq_true rfl, Nat.le_of_ble_eq_true rfl⟩) (va_recv hK hI.1 (ci := 3) (q0 := 4) rfl rfl) hI rfl hl.1 rfl (Nat.le_of_ble_eq_true rfl) dX0_find_14 (fun H locs hI => ?_)
    refine lv_istore (lv' := [(4, .int (cEntries_withNumber st (ushr x2 (12 : Int32)))), (0, .ref (gad g 18)), (1, .int x1), (2, .int x2), (3, .int x3)]) hx hb dX0_find_17 hl (by decide) rfl (fun ls hl => ?_)
    refine lv_iload hx hb dX0_find_19 (lv_at hl 0 rfl) ?_
    refine lv_iconst (v := (-1 : Int32)) hx hb dX0_find_21 (by decide) ?_
    refine lv_icmp_eq (tgt := 42) hx hb dX0_find_22 (by decide) (fun c_22 => ?_) (fun c_22 => ?_)
    · have hF := hF.trans (if_pos c_22)
      refine lv_iconst (v := (-1 : Int32)) hx hb dX0_find_42 (by decide) ?_
      exact cx_iret C hI rfl hF dX0_find_43
    · have hF := hF.trans (if_neg c_22)
      refine lv_iload_n hx hb dX0_find_25 rfl (lv_at hl 2 rfl) ?_
      refine lv_if_ne (tgt := 44) hx hb dX0_find_26 (by decide) (fun c_26 => ?_) (fun c_26 => ?_)
      · have hF := hF.trans (if_neg c_26)
        exact k_cBus_find_b44 g C st x2 (cEntries_withNumber st (ushr x2 (12 : Int32))) H locs ls hI (lv_sub hl [1, 3, 0] rfl) X hF
      · have hF := hF.trans (if_pos c_26)
        refine lv_aload_n hx hb dX0_find_29 rfl (lv_at hl 1 rfl) ?_
        refine va_get (D := gD g) (ci := 0) (C := RX0) (T := TX0) (N := 5) (v := .ref (gad g 4)) hx hb hts (fun w h => List.mem_cons_of_mem _ (isX00 w h)) hown hK hI.1 18 rfl rfl 1 (by decide) (hts _ (List.mem_cons_of_mem _ mw102)) (fun _ h9 => h9) rfl dX0_find_30 ?_
        refine lv_iload hx hb dX0_find_33 (lv_at hl 0 rfl) ?_
        refine lv_iload_n hx hb dX0_find_35 rfl (lv_at hl 4 rfl) ?_
        refine cx_Vi (As := [.int (cEntries_withNumber st (ushr x2 (12 : Int32))), .int x3]) (rest := []) C (c_cEntries_letsUser l g st (cEntries_withNumber st (ushr x2 (12 : Int32))) x3) (cwV 2 hts (gd_V _ mw343 mw344 mw345 mw18 mw346) rfl rfl rfl yd_yX3_letsUser ⟨Nat.le_of_ble_eq_true rfl, Nat.le_of_ble_eq_true rfl⟩) (va_recv hK hI.1 (ci := 3) (q0 := 4) rfl rfl) hI rfl hl.1 rfl (Nat.le_of_ble_eq_true rfl) dX0_find_36 (fun H locs hI => ?_)
        refine lv_if_ne (tgt := 44) hx hb dX0_find_39 (by decide) (fun c_39 => ?_) (fun c_39 => ?_)
        · have hF := hF.trans (if_neg c_39)
          exact k_cBus_find_b44 g C st x2 (cEntries_withNumber st (ushr x2 (12 : Int32))) H locs ls hI (lv_sub hl [1, 3, 0] rfl) X hF
        · have hF := hF.trans (if_pos c_39)
          refine lv_iconst (v := (-1 : Int32)) hx hb dX0_find_42 (by decide) ?_
          exact cx_iret C hI rfl hF dX0_find_43
set_option maxHeartbeats 4000000 in
set_option maxRecDepth 100000 in
theorem c_cBus_find (l : Launch) (g : Gm) (st : CS) (x1 : Int32) (x2 : Int32) (x3 : Int32) : Mi l yX0_find wq_X0_find rm_cBus_find (gD g) vwCl (cty g) (cw g) (cz g) [.ref (gad g 18), .int x1, .int x2, .int x3] st st (cBus_find st x1 x2 x3) := by
  intro sz
  refine Met.ofW (cc := cX0_find) (maxL := 5) (ret := (some .int)) (by decide) rfl ?_
  intro p e s m args below meth c s₁ B hml hv
  obtain ⟨rfl, hsz, hP, hK, hD0, hZ⟩ := hv
  subst hsz
  have hl := lv_entry ([.ref (gad g 18), .int x1, .int x2, .int x3]) (n := 5) (Nat.le_of_ble_eq_true rfl)
  rw [lg_entry_eq]
  generalize (lg_sl ([.ref (gad g 18), .int x1, .int x2, .int x3]) ++ List.replicate (5 - (lg_sl ([.ref (gad g 18), .int x1, .int x2, .int x3])).length) Slot.unset).toArray = ls at hl ⊢
  exact k_cBus_find g ⟨B.exec, B.bytes, B.returns, hml, findClass_of_methodNamed B.named, atoms_spec (ws := wq_X0_find) B.pre, B.notSynchronized, hK, fun q h => Or.inr h, hZ, cz_ok g⟩ st x1 x2 x3 _ _ ls ⟨hP, hD0.self, va_S.rf⟩ hl _ rfl
abbrev wq_X0_isInMemory : List Cond := .code yX0_isInMemory cX0_isInMemory 1 (some .boolean) :: wAll
theorem yd_yX0_isInMemory : yX0_isInMemory.cls ≠ "java/lang/invoke/MethodHandle" ∧ yX0_isInMemory.cls ≠ "java/lang/invoke/VarHandle" ∧ (parseMethodDescriptor yX0_isInMemory.desc).map (fun d => d.parameters.length) = some 1 := by decide +kernel
abbrev rm_cBus_isInMemory : Room := { frames := 0, cells := 0, slots := 0, locals := 0 }
def cBus_isInMemory (x0 : Int32) : Int32 := (if (x0 < 0) then (0 : Int32) else (if ((16384 : Int32) ≤ x0) then (0 : Int32) else (1 : Int32)))
set_option maxHeartbeats 4000000 in
set_option maxRecDepth 100000 in
theorem k_cBus_isInMemory {p : Program} {l : Launch} {e : Env} {s : State} {m : MethodId} {args : Array Value} {below : List Frame} {meth : Method} {c : Code} {A : Nat → Prop} (g : Gm) (C : cX p s m args meth c A cX0_isInMemory (some .boolean) 1 RX0 wq_X0_isInMemory (gD g) vwCl (cty g) (cz g)) (st : CS) (x0 : Int32) (H : Heap) (locs : List Loc) (ls : Array Slot) (hI : cI (gD g) vwCl (cw g) A s st H locs) (hl : lv_has ls 1 [(0, .int x0)]) (X : Int32) (hF : X = cBus_isInMemory x0) : W p l e rm_cBus_isInMemory s m args below meth c H locs 0 0 (MQ below (cQi (gD g) vwCl (cty g) (cw g) A st X) args s 0 0 A) (F0 m 0 ls []) := by
  obtain ⟨hx, hb, hr, hml, hown, hts, hlocks, hK, hA, hZ, hzo⟩ := id C
  unfold cBus_isInMemory at hF
  refine lv_iload_n hx hb dX0_isInMemory_0 rfl (lv_at hl 0 rfl) ?_
  refine lv_if_lt (tgt := 15) hx hb dX0_isInMemory_1 (by decide) (fun c_1 => ?_) (fun c_1 => ?_)
  · have hF := hF.trans (if_pos c_1)
    refine lv_iconst (v := (0 : Int32)) hx hb dX0_isInMemory_15 (by decide) ?_
    exact cx_zret C hI rfl hF rfl dX0_isInMemory_16
  · have hF := hF.trans (if_neg c_1)
    refine lv_iload_n hx hb dX0_isInMemory_4 rfl (lv_at hl 0 rfl) ?_
    refine lv_sipush (v := (16384 : Int32)) hx hb dX0_isInMemory_5 (by decide) ?_
    refine lv_icmp_ge (tgt := 15) hx hb dX0_isInMemory_8 (by decide) (fun c_8 => ?_) (fun c_8 => ?_)
    · have hF := hF.trans (if_pos c_8)
      refine lv_iconst (v := (0 : Int32)) hx hb dX0_isInMemory_15 (by decide) ?_
      exact cx_zret C hI rfl hF rfl dX0_isInMemory_16
    · have hF := hF.trans (if_neg c_8)
      refine lv_iconst (v := (1 : Int32)) hx hb dX0_isInMemory_11 (by decide) ?_
      refine lv_goto (tgt := 16) hx hb dX0_isInMemory_12 (by decide) ?_
      exact cx_zret C hI rfl hF rfl dX0_isInMemory_16
set_option maxHeartbeats 4000000 in
set_option maxRecDepth 100000 in
theorem c_cBus_isInMemory (l : Launch) (g : Gm) (st : CS) (x0 : Int32) : Mi l yX0_isInMemory wq_X0_isInMemory rm_cBus_isInMemory (gD g) vwCl (cty g) (cw g) (cz g) [.int x0] st st (cBus_isInMemory x0) := by
  intro sz
  refine Met.ofW (cc := cX0_isInMemory) (maxL := 1) (ret := (some .boolean)) (by decide) rfl ?_
  intro p e s m args below meth c s₁ B hml hv
  obtain ⟨rfl, hsz, hP, hK, hD0, hZ⟩ := hv
  subst hsz
  have hl := lv_entry ([.int x0]) (n := 1) (Nat.le_of_ble_eq_true rfl)
  rw [lg_entry_eq]
  generalize (lg_sl ([.int x0]) ++ List.replicate (1 - (lg_sl ([.int x0])).length) Slot.unset).toArray = ls at hl ⊢
  exact k_cBus_isInMemory g ⟨B.exec, B.bytes, B.returns, hml, findClass_of_methodNamed B.named, atoms_spec (ws := wq_X0_isInMemory) B.pre, B.notSynchronized, hK, fun q h => Or.inr h, hZ, cz_ok g⟩ st x0 _ _ ls ⟨hP, hD0.self, va_S.rf⟩ hl _ rfl
theorem vin_mem {x : Int32} (c : ¬ cBus_isInMemory x = 0) : vp_in x 16384 := by
  unfold cBus_isInMemory at c
  by_cases h1 : x < 0
  · rw [if_pos h1] at c
    exact absurd rfl c
  · rw [if_neg h1] at c
    by_cases h2 : (16384 : Int32) ≤ x
    · rw [if_pos h2] at c
      exact absurd rfl c
    · exact vin_lt (by decide) rfl h1 (Int32.not_le.mp h2)
abbrev wq_X0_fetch : List Cond := .code yX0_fetch cX0_fetch 2 (some .int) :: wAll
theorem yd_yX0_fetch : yX0_fetch.cls = RX0 ∧ yX0_fetch.cls ≠ "java/lang/invoke/MethodHandle" ∧ yX0_fetch.cls ≠ "java/lang/invoke/VarHandle" ∧ (parseMethodDescriptor yX0_fetch.desc).map (fun d => d.parameters.length) = some 1 := by decide +kernel
abbrev rm_cBus_fetch : Room := { frames := 1, cells := 0, slots := 0, locals := 20 }
def cBus_fetch (st : CS) (x1 : Int32) : Int32 := (if ((cBus_isInMemory x1) = 0) then (0 : Int32) else ((gA st 0) x1.toNatClampNeg))
set_option maxHeartbeats 4000000 in
set_option maxRecDepth 100000 in
theorem k_cBus_fetch {p : Program} {l : Launch} {e : Env} {s : State} {m : MethodId} {args : Array Value} {below : List Frame} {meth : Method} {c : Code} {A : Nat → Prop} (g : Gm) (C : cX p s m args meth c A cX0_fetch (some .int) 2 RX0 wq_X0_fetch (gD g) vwCl (cty g) (cz g)) (st : CS) (x1 : Int32) (H : Heap) (locs : List Loc) (ls : Array Slot) (hI : cI (gD g) vwCl (cw g) A s st H locs) (hl : lv_has ls 2 [(0, .ref (gad g 18)), (1, .int x1)]) (X : Int32) (hF : X = cBus_fetch st x1) : W p l e rm_cBus_fetch s m args below meth c H locs 0 0 (MQ below (cQi (gD g) vwCl (cty g) (cw g) A st X) args s 0 0 A) (F0 m 0 ls []) := by
  obtain ⟨hx, hb, hr, hml, hown, hts, hlocks, hK, hA, hZ, hzo⟩ := id C
  unfold cBus_fetch at hF
  refine lv_iload_n hx hb dX0_fetch_0 rfl (lv_at hl 1 rfl) ?_
  refine cx_Si (As := [.int x1]) (rest := []) C (c_cBus_isInMemory l g st x1) (va_cwS 1 hts (gd_S _ mw351 mw352 mw42 mw353) rfl rfl rfl yd_yX0_isInMemory ⟨Nat.le_of_ble_eq_true rfl, Nat.le_of_ble_eq_true rfl⟩) hI rfl hl.1 rfl (Nat.le_of_ble_eq_true rfl) dX0_fetch_1 (fun H locs hI => ?_)
  refine lv_if_eq (tgt := 16) hx hb dX0_fetch_4 (by decide) (fun c_4 => ?_) (fun c_4 => ?_)
  · have hF := hF.trans (if_pos c_4)
    refine lv_iconst (v := (0 : Int32)) hx hb dX0_fetch_16 (by decide) ?_
    exact cx_iret C hI rfl hF dX0_fetch_17
  · have hF := hF.trans (if_neg c_4)
    refine lv_aload_n hx hb dX0_fetch_7 rfl (lv_at hl 0 rfl) ?_
    refine va_get (D := gD g) (ci := 0) (C := RX0) (T := TX0) (N := 5) (v := .ref (gad g 1)) hx hb hts (fun w h => List.mem_cons_of_mem _ (isX00 w h)) hown hK hI.1 18 rfl rfl 0 (by decide) (hts _ (List.mem_cons_of_mem _ mw101)) (fun _ h9 => h9) rfl dX0_fetch_8 ?_
    refine lv_iload_n hx hb dX0_fetch_11 rfl (lv_at hl 1 rfl) ?_
    refine va_iald (f := (gA st 0)) hx hb hK hI.1 1 0 rfl rfl (vin_mem c_4) dX0_fetch_12 ?_
    refine lv_goto (tgt := 17) hx hb dX0_fetch_13 (by decide) ?_
    exact cx_iret C hI rfl hF dX0_fetch_17
set_option maxHeartbeats 4000000 in
set_option maxRecDepth 100000 in
theorem c_cBus_fetch (l : Launch) (g : Gm) (st : CS) (x1 : Int32) : Mi l yX0_fetch wq_X0_fetch rm_cBus_fetch (gD g) vwCl (cty g) (cw g) (cz g) [.ref (gad g 18), .int x1] st st (cBus_fetch st x1) := by
  intro sz
  refine Met.ofW (cc := cX0_fetch) (maxL := 2) (ret := (some .int)) (by decide) rfl ?_
  intro p e s m args below meth c s₁ B hml hv
  obtain ⟨rfl, hsz, hP, hK, hD0, hZ⟩ := hv
  subst hsz
  have hl := lv_entry ([.ref (gad g 18), .int x1]) (n := 2) (Nat.le_of_ble_eq_true rfl)
  rw [lg_entry_eq]
  generalize (lg_sl ([.ref (gad g 18), .int x1]) ++ List.replicate (2 - (lg_sl ([.ref (gad g 18), .int x1])).length) Slot.unset).toArray = ls at hl ⊢
  exact k_cBus_fetch g ⟨B.exec, B.bytes, B.returns, hml, findClass_of_methodNamed B.named, atoms_spec (ws := wq_X0_fetch) B.pre, B.notSynchronized, hK, fun q h => Or.inr h, hZ, cz_ok g⟩ st x1 _ _ ls ⟨hP, hD0.self, va_S.rf⟩ hl _ rfl
abbrev wq_X0_isOfController : List Cond := .code yX0_isOfController cX0_isOfController 1 (some .boolean) :: wAll
theorem yd_yX0_isOfController : yX0_isOfController.cls ≠ "java/lang/invoke/MethodHandle" ∧ yX0_isOfController.cls ≠ "java/lang/invoke/VarHandle" ∧ (parseMethodDescriptor yX0_isOfController.desc).map (fun d => d.parameters.length) = some 1 := by decide +kernel
abbrev rm_cBus_isOfController : Room := { frames := 0, cells := 0, slots := 0, locals := 0 }
def cBus_isOfController (x0 : Int32) : Int32 := (if ((x0 &&& (-32 : Int32)) = (524288 : Int32)) then (1 : Int32) else (0 : Int32))
set_option maxHeartbeats 4000000 in
set_option maxRecDepth 100000 in
theorem k_cBus_isOfController {p : Program} {l : Launch} {e : Env} {s : State} {m : MethodId} {args : Array Value} {below : List Frame} {meth : Method} {c : Code} {A : Nat → Prop} (g : Gm) (C : cX p s m args meth c A cX0_isOfController (some .boolean) 1 RX0 wq_X0_isOfController (gD g) vwCl (cty g) (cz g)) (st : CS) (x0 : Int32) (H : Heap) (locs : List Loc) (ls : Array Slot) (hI : cI (gD g) vwCl (cw g) A s st H locs) (hl : lv_has ls 1 [(0, .int x0)]) (X : Int32) (hF : X = cBus_isOfController x0) : W p l e rm_cBus_isOfController s m args below meth c H locs 0 0 (MQ below (cQi (gD g) vwCl (cty g) (cw g) A st X) args s 0 0 A) (F0 m 0 ls []) := by
  obtain ⟨hx, hb, hr, hml, hown, hts, hlocks, hK, hA, hZ, hzo⟩ := id C
  unfold cBus_isOfController at hF
  refine lv_iload_n hx hb dX0_isOfController_0 rfl (lv_at hl 0 rfl) ?_
  refine lv_bipush (v := (-32 : Int32)) hx hb dX0_isOfController_1 (by decide) ?_
  refine lv_iand hx hb dX0_isOfController_3 ?_
  refine lv_ldc (v := (524288 : Int32)) hx hb hown (hts _ (List.mem_cons_of_mem _ mw543)) dX0_isOfController_4 ?_
  refine lv_icmp_ne (tgt := 13) hx hb dX0_isOfController_6 (by decide) (fun c_6 => ?_) (fun c_6 => ?_)
  · have hF := hF.trans (if_neg c_6)
    refine lv_iconst (v := (0 : Int32)) hx hb dX0_isOfController_13 (by decide) ?_
    exact cx_zret C hI rfl hF rfl dX0_isOfController_14
  · have hF := hF.trans (if_pos c_6)
    refine lv_iconst (v := (1 : Int32)) hx hb dX0_isOfController_9 (by decide) ?_
    refine lv_goto (tgt := 14) hx hb dX0_isOfController_10 (by decide) ?_
    exact cx_zret C hI rfl hF rfl dX0_isOfController_14
set_option maxHeartbeats 4000000 in
set_option maxRecDepth 100000 in
theorem c_cBus_isOfController (l : Launch) (g : Gm) (st : CS) (x0 : Int32) : Mi l yX0_isOfController wq_X0_isOfController rm_cBus_isOfController (gD g) vwCl (cty g) (cw g) (cz g) [.int x0] st st (cBus_isOfController x0) := by
  intro sz
  refine Met.ofW (cc := cX0_isOfController) (maxL := 1) (ret := (some .boolean)) (by decide) rfl ?_
  intro p e s m args below meth c s₁ B hml hv
  obtain ⟨rfl, hsz, hP, hK, hD0, hZ⟩ := hv
  subst hsz
  have hl := lv_entry ([.int x0]) (n := 1) (Nat.le_of_ble_eq_true rfl)
  rw [lg_entry_eq]
  generalize (lg_sl ([.int x0]) ++ List.replicate (1 - (lg_sl ([.int x0])).length) Slot.unset).toArray = ls at hl ⊢
  exact k_cBus_isOfController g ⟨B.exec, B.bytes, B.returns, hml, findClass_of_methodNamed B.named, atoms_spec (ws := wq_X0_isOfController) B.pre, B.notSynchronized, hK, fun q h => Or.inr h, hZ, cz_ok g⟩ st x0 _ _ ls ⟨hP, hD0.self, va_S.rf⟩ hl _ rfl
abbrev wq_X0_isOfDisk : List Cond := .code yX0_isOfDisk cX0_isOfDisk 1 (some .boolean) :: wAll
theorem yd_yX0_isOfDisk : yX0_isOfDisk.cls ≠ "java/lang/invoke/MethodHandle" ∧ yX0_isOfDisk.cls ≠ "java/lang/invoke/VarHandle" ∧ (parseMethodDescriptor yX0_isOfDisk.desc).map (fun d => d.parameters.length) = some 1 := by decide +kernel
abbrev rm_cBus_isOfDisk : Room := { frames := 0, cells := 0, slots := 0, locals := 0 }
def cBus_isOfDisk (x0 : Int32) : Int32 := (if ((x0 &&& (-4 : Int32)) = (16384 : Int32)) then (1 : Int32) else (0 : Int32))
set_option maxHeartbeats 4000000 in
set_option maxRecDepth 100000 in
theorem k_cBus_isOfDisk {p : Program} {l : Launch} {e : Env} {s : State} {m : MethodId} {args : Array Value} {below : List Frame} {meth : Method} {c : Code} {A : Nat → Prop} (g : Gm) (C : cX p s m args meth c A cX0_isOfDisk (some .boolean) 1 RX0 wq_X0_isOfDisk (gD g) vwCl (cty g) (cz g)) (st : CS) (x0 : Int32) (H : Heap) (locs : List Loc) (ls : Array Slot) (hI : cI (gD g) vwCl (cw g) A s st H locs) (hl : lv_has ls 1 [(0, .int x0)]) (X : Int32) (hF : X = cBus_isOfDisk x0) : W p l e rm_cBus_isOfDisk s m args below meth c H locs 0 0 (MQ below (cQi (gD g) vwCl (cty g) (cw g) A st X) args s 0 0 A) (F0 m 0 ls []) := by
  obtain ⟨hx, hb, hr, hml, hown, hts, hlocks, hK, hA, hZ, hzo⟩ := id C
  unfold cBus_isOfDisk at hF
  refine lv_iload_n hx hb dX0_isOfDisk_0 rfl (lv_at hl 0 rfl) ?_
  refine lv_bipush (v := (-4 : Int32)) hx hb dX0_isOfDisk_1 (by decide) ?_
  refine lv_iand hx hb dX0_isOfDisk_3 ?_
  refine lv_sipush (v := (16384 : Int32)) hx hb dX0_isOfDisk_4 (by decide) ?_
  refine lv_icmp_ne (tgt := 14) hx hb dX0_isOfDisk_7 (by decide) (fun c_7 => ?_) (fun c_7 => ?_)
  · have hF := hF.trans (if_neg c_7)
    refine lv_iconst (v := (0 : Int32)) hx hb dX0_isOfDisk_14 (by decide) ?_
    exact cx_zret C hI rfl hF rfl dX0_isOfDisk_15
  · have hF := hF.trans (if_pos c_7)
    refine lv_iconst (v := (1 : Int32)) hx hb dX0_isOfDisk_10 (by decide) ?_
    refine lv_goto (tgt := 15) hx hb dX0_isOfDisk_11 (by decide) ?_
    exact cx_zret C hI rfl hF rfl dX0_isOfDisk_15
set_option maxHeartbeats 4000000 in
set_option maxRecDepth 100000 in
theorem c_cBus_isOfDisk (l : Launch) (g : Gm) (st : CS) (x0 : Int32) : Mi l yX0_isOfDisk wq_X0_isOfDisk rm_cBus_isOfDisk (gD g) vwCl (cty g) (cw g) (cz g) [.int x0] st st (cBus_isOfDisk x0) := by
  intro sz
  refine Met.ofW (cc := cX0_isOfDisk) (maxL := 1) (ret := (some .boolean)) (by decide) rfl ?_
  intro p e s m args below meth c s₁ B hml hv
  obtain ⟨rfl, hsz, hP, hK, hD0, hZ⟩ := hv
  subst hsz
  have hl := lv_entry ([.int x0]) (n := 1) (Nat.le_of_ble_eq_true rfl)
  rw [lg_entry_eq]
  generalize (lg_sl ([.int x0]) ++ List.replicate (1 - (lg_sl ([.int x0])).length) Slot.unset).toArray = ls at hl ⊢
  exact k_cBus_isOfDisk g ⟨B.exec, B.bytes, B.returns, hml, findClass_of_methodNamed B.named, atoms_spec (ws := wq_X0_isOfDisk) B.pre, B.notSynchronized, hK, fun q h => Or.inr h, hZ, cz_ok g⟩ st x0 _ _ ls ⟨hP, hD0.self, va_S.rf⟩ hl _ rfl
abbrev wq_X0_deviceWord : List Cond := .code yX0_deviceWord cX0_deviceWord 2 (some .int) :: wAll
theorem yd_yX0_deviceWord : yX0_deviceWord.cls = RX0 ∧ yX0_deviceWord.cls ≠ "java/lang/invoke/MethodHandle" ∧ yX0_deviceWord.cls ≠ "java/lang/invoke/VarHandle" ∧ (parseMethodDescriptor yX0_deviceWord.desc).map (fun d => d.parameters.length) = some 1 := by decide +kernel
abbrev rm_cBus_deviceWord : Room := { frames := 1, cells := 0, slots := 0, locals := 21 }
def cBus_deviceWord (st : CS) (x1 : Int32) : Int32 := (if ((cBus_isOfController x1) = 0) then (if ((cBus_isOfDisk x1) = 0) then (0 : Int32) else (cDisk_read st (x1 &&& (3 : Int32)))) else (cController_read st (x1 &&& (31 : Int32))))
set_option maxHeartbeats 4000000 in
set_option maxRecDepth 100000 in
theorem k_cBus_deviceWord {p : Program} {l : Launch} {e : Env} {s : State} {m : MethodId} {args : Array Value} {below : List Frame} {meth : Method} {c : Code} {A : Nat → Prop} (g : Gm) (C : cX p s m args meth c A cX0_deviceWord (some .int) 2 RX0 wq_X0_deviceWord (gD g) vwCl (cty g) (cz g)) (st : CS) (x1 : Int32) (H : Heap) (locs : List Loc) (ls : Array Slot) (hI : cI (gD g) vwCl (cw g) A s st H locs) (hl : lv_has ls 2 [(0, .ref (gad g 18)), (1, .int x1)]) (X : Int32) (hF : X = cBus_deviceWord st x1) : W p l e rm_cBus_deviceWord s m args below meth c H locs 0 0 (MQ below (cQi (gD g) vwCl (cty g) (cw g) A st X) args s 0 0 A) (F0 m 0 ls []) := by
  obtain ⟨hx, hb, hr, hml, hown, hts, hlocks, hK, hA, hZ, hzo⟩ := id C
  unfold cBus_deviceWord at hF
  refine lv_iload_n hx hb dX0_deviceWord_0 rfl (lv_at hl 1 rfl) ?_
  refine cx_Si (As := [.int x1]) (rest := []) C (c_cBus_isOfController l g st x1) (va_cwS 1 hts (gd_S _ mw540 mw541 mw42 mw542) rfl rfl rfl yd_yX0_isOfController ⟨Nat.le_of_ble_eq_true rfl, Nat.le_of_ble_eq_true rfl⟩) hI rfl hl.1 rfl (Nat.le_of_ble_eq_true rfl) dX0_deviceWord_1 (fun H locs hI => ?_)
  refine lv_if_eq (tgt := 19) hx hb dX0_deviceWord_4 (by decide) (fun c_4 => ?_) (fun c_4 => ?_)
  · have hF := hF.trans (if_pos c_4)
    refine lv_iload_n hx hb dX0_deviceWord_19 rfl (lv_at hl 1 rfl) ?_
    refine cx_Si (As := [.int x1]) (rest := []) C (c_cBus_isOfDisk l g st x1) (va_cwS 1 hts (gd_S _ mw556 mw557 mw42 mw558) rfl rfl rfl yd_yX0_isOfDisk ⟨Nat.le_of_ble_eq_true rfl, Nat.le_of_ble_eq_true rfl⟩) hI rfl hl.1 rfl (Nat.le_of_ble_eq_true rfl) dX0_deviceWord_20 (fun H locs hI => ?_)
    refine lv_if_eq (tgt := 39) hx hb dX0_deviceWord_23 (by decide) (fun c_23 => ?_) (fun c_23 => ?_)
    · have hF := hF.trans (if_pos c_23)
      refine lv_iconst (v := (0 : Int32)) hx hb dX0_deviceWord_39 (by decide) ?_
      exact cx_iret C hI rfl hF dX0_deviceWord_40
    · have hF := hF.trans (if_neg c_23)
      refine lv_aload_n hx hb dX0_deviceWord_26 rfl (lv_at hl 0 rfl) ?_
      refine va_get (D := gD g) (ci := 0) (C := RX0) (T := TX0) (N := 5) (v := .ref (gad g 10)) hx hb hts (fun w h => List.mem_cons_of_mem _ (isX00 w h)) hown hK hI.1 18 rfl rfl 3 (by decide) (hts _ (List.mem_cons_of_mem _ mw104)) (fun _ h9 => h9) rfl dX0_deviceWord_27 ?_
      refine lv_iload_n hx hb dX0_deviceWord_30 rfl (lv_at hl 1 rfl) ?_
      refine lv_iconst (v := (3 : Int32)) hx hb dX0_deviceWord_31 (by decide) ?_
      refine lv_iand hx hb dX0_deviceWord_32 ?_
      refine cx_Vi (As := [.int (x1 &&& (3 : Int32))]) (rest := []) C (c_cDisk_read l g st (x1 &&& (3 : Int32))) (cwV 1 hts (gd_V _ mw559 mw560 mw561 mw30 mw562) rfl rfl rfl yd_yX2_read ⟨Nat.le_of_ble_eq_true rfl, Nat.le_of_ble_eq_true rfl⟩) (va_recv hK hI.1 (ci := 2) (q0 := 10) rfl rfl) hI rfl hl.1 rfl (Nat.le_of_ble_eq_true rfl) dX0_deviceWord_33 (fun H locs hI => ?_)
      refine lv_goto (tgt := 40) hx hb dX0_deviceWord_36 (by decide) ?_
      exact cx_iret C hI rfl hF dX0_deviceWord_40
  · have hF := hF.trans (if_neg c_4)
    refine lv_aload_n hx hb dX0_deviceWord_7 rfl (lv_at hl 0 rfl) ?_
    refine va_get (D := gD g) (ci := 0) (C := RX0) (T := TX0) (N := 5) (v := .ref (gad g 12)) hx hb hts (fun w h => List.mem_cons_of_mem _ (isX00 w h)) hown hK hI.1 18 rfl rfl 2 (by decide) (hts _ (List.mem_cons_of_mem _ mw103)) (fun _ h9 => h9) rfl dX0_deviceWord_8 ?_
    refine lv_iload_n hx hb dX0_deviceWord_11 rfl (lv_at hl 1 rfl) ?_
    refine lv_bipush (v := (31 : Int32)) hx hb dX0_deviceWord_12 (by decide) ?_
    refine lv_iand hx hb dX0_deviceWord_14 ?_
    refine cx_Vi (As := [.int (x1 &&& (31 : Int32))]) (rest := []) C (c_cController_read l g st (x1 &&& (31 : Int32))) (cwV 1 hts (gd_V _ mw544 mw545 mw546 mw34 mw547) rfl rfl rfl yd_yX1_read ⟨Nat.le_of_ble_eq_true rfl, Nat.le_of_ble_eq_true rfl⟩) (va_recv hK hI.1 (ci := 1) (q0 := 12) rfl rfl) hI rfl hl.1 rfl (Nat.le_of_ble_eq_true rfl) dX0_deviceWord_15 (fun H locs hI => ?_)
    exact cx_iret C hI rfl hF dX0_deviceWord_18
set_option maxHeartbeats 4000000 in
set_option maxRecDepth 100000 in
theorem c_cBus_deviceWord (l : Launch) (g : Gm) (st : CS) (x1 : Int32) : Mi l yX0_deviceWord wq_X0_deviceWord rm_cBus_deviceWord (gD g) vwCl (cty g) (cw g) (cz g) [.ref (gad g 18), .int x1] st st (cBus_deviceWord st x1) := by
  intro sz
  refine Met.ofW (cc := cX0_deviceWord) (maxL := 2) (ret := (some .int)) (by decide) rfl ?_
  intro p e s m args below meth c s₁ B hml hv
  obtain ⟨rfl, hsz, hP, hK, hD0, hZ⟩ := hv
  subst hsz
  have hl := lv_entry ([.ref (gad g 18), .int x1]) (n := 2) (Nat.le_of_ble_eq_true rfl)
  rw [lg_entry_eq]
  generalize (lg_sl ([.ref (gad g 18), .int x1]) ++ List.replicate (2 - (lg_sl ([.ref (gad g 18), .int x1])).length) Slot.unset).toArray = ls at hl ⊢
  exact k_cBus_deviceWord g ⟨B.exec, B.bytes, B.returns, hml, findClass_of_methodNamed B.named, atoms_spec (ws := wq_X0_deviceWord) B.pre, B.notSynchronized, hK, fun q h => Or.inr h, hZ, cz_ok g⟩ st x1 _ _ ls ⟨hP, hD0.self, va_S.rf⟩ hl _ rfl
abbrev wq_X0_read : List Cond := .code yX0_read cX0_read 5 (some .int) :: wAll
theorem yd_yX0_read : yX0_read.cls = RX0 ∧ yX0_read.cls ≠ "java/lang/invoke/MethodHandle" ∧ yX0_read.cls ≠ "java/lang/invoke/VarHandle" ∧ (parseMethodDescriptor yX0_read.desc).map (fun d => d.parameters.length) = some 2 := by decide +kernel
abbrev rm_cBus_read : Room := { frames := 2, cells := 0, slots := 0, locals := 42 }
def cBus_read_b60 (st : CS) (x4 : Int32) : CS × Int32 := (st, x4)
set_option maxHeartbeats 4000000 in
set_option maxRecDepth 100000 in
theorem k_cBus_read_b60 {p : Program} {l : Launch} {e : Env} {s : State} {m : MethodId} {args : Array Value} {below : List Frame} {meth : Method} {c : Code} {A : Nat → Prop} (g : Gm) (C : cX p s m args meth c A cX0_read (some .int) 5 RX0 wq_X0_read (gD g) vwCl (cty g) (cz g)) (st : CS) (x4 : Int32) (H : Heap) (locs : List Loc) (ls : Array Slot) (hI : cI (gD g) vwCl (cw g) A s st H locs) (hl : lv_has ls 5 [(0, .ref (gad g 18)), (4, .int x4)]) (X : CS × Int32) (hF : X = cBus_read_b60 st x4) : W p l e rm_cBus_read s m args below meth c H locs 0 0 (MQ below (cQi (gD g) vwCl (cty g) (cw g) A X.1 X.2) args s 0 0 A) (F0 m 60 ls []) := by
  obtain ⟨hx, hb, hr, hml, hown, hts, hlocks, hK, hA, hZ, hzo⟩ := id C
  unfold cBus_read_b60 at hF
  refine lv_goto (tgt := 80) hx hb dX0_read_60 (by decide) ?_
  refine lv_iload hx hb dX0_read_80 (lv_at hl 1 rfl) ?_
  exact cx_iret C hI (congrArg Prod.fst hF) (congrArg Prod.snd hF) dX0_read_82
def cBus_read (st : CS) (x1 : Int32) (x2 : Int32) : CS × Int32 := (if ((cBus_isInMemory x1) = 0) then (if (x2 < (50331648 : Int32)) then (st, (0 : Int32)) else (if (x2 < (54525952 : Int32)) then (if ((cBus_isOfController ((ushr x2 (2 : Int32)) &&& (1048575 : Int32))) = 0) then (if ((cBus_isOfDisk ((ushr x2 (2 : Int32)) &&& (1048575 : Int32))) = 0) then (st, (cBus_deviceWord st ((ushr x2 (2 : Int32)) &&& (1048575 : Int32)))) else ((cDisk_isRead st (((ushr x2 (2 : Int32)) &&& (1048575 : Int32)) &&& (3 : Int32))), (cBus_deviceWord st ((ushr x2 (2 : Int32)) &&& (1048575 : Int32))))) else (cBus_read_b60 (cController_isRead st (((ushr x2 (2 : Int32)) &&& (1048575 : Int32)) &&& (31 : Int32))) (cBus_deviceWord st ((ushr x2 (2 : Int32)) &&& (1048575 : Int32))))) else (st, (0 : Int32)))) else (st, ((gA st 0) x1.toNatClampNeg)))
set_option maxHeartbeats 4000000 in
set_option maxRecDepth 100000 in
theorem k_cBus_read {p : Program} {l : Launch} {e : Env} {s : State} {m : MethodId} {args : Array Value} {below : List Frame} {meth : Method} {c : Code} {A : Nat → Prop} (g : Gm) (C : cX p s m args meth c A cX0_read (some .int) 5 RX0 wq_X0_read (gD g) vwCl (cty g) (cz g)) (st : CS) (x1 : Int32) (x2 : Int32) (H : Heap) (locs : List Loc) (ls : Array Slot) (hI : cI (gD g) vwCl (cw g) A s st H locs) (hl : lv_has ls 5 [(0, .ref (gad g 18)), (1, .int x1), (2, .int x2)]) (X : CS × Int32) (hF : X = cBus_read st x1 x2) : W p l e rm_cBus_read s m args below meth c H locs 0 0 (MQ below (cQi (gD g) vwCl (cty g) (cw g) A X.1 X.2) args s 0 0 A) (F0 m 0 ls []) := by
  obtain ⟨hx, hb, hr, hml, hown, hts, hlocks, hK, hA, hZ, hzo⟩ := id C
  unfold cBus_read at hF
  refine lv_iload_n hx hb dX0_read_0 rfl (lv_at hl 1 rfl) ?_
  refine cx_Si (As := [.int x1]) (rest := []) C (c_cBus_isInMemory l g st x1) (va_cwS 1 hts (gd_S _ mw351 mw352 mw42 mw353) rfl rfl rfl yd_yX0_isInMemory ⟨Nat.le_of_ble_eq_true rfl, Nat.le_of_ble_eq_true rfl⟩) hI rfl hl.1 rfl (Nat.le_of_ble_eq_true rfl) dX0_read_1 (fun H locs hI => ?_)
  refine lv_if_eq (tgt := 14) hx hb dX0_read_4 (by decide) (fun c_4 => ?_) (fun c_4 => ?_)
  · have hF := hF.trans (if_pos c_4)
    refine lv_iload_n hx hb dX0_read_14 rfl (lv_at hl 2 rfl) ?_
    refine lv_ldc (v := (50331648 : Int32)) hx hb hown (hts _ (List.mem_cons_of_mem _ mw338)) dX0_read_15 ?_
    refine lv_icmp_lt (tgt := 26) hx hb dX0_read_17 (by decide) (fun c_17 => ?_) (fun c_17 => ?_)
    · have hF := hF.trans (if_pos c_17)
      refine lv_iconst (v := (0 : Int32)) hx hb dX0_read_26 (by decide) ?_
      exact cx_iret C hI (congrArg Prod.fst hF) (congrArg Prod.snd hF) dX0_read_27
    · have hF := hF.trans (if_neg c_17)
      refine lv_iload_n hx hb dX0_read_20 rfl (lv_at hl 2 rfl) ?_
      refine lv_ldc (v := (54525952 : Int32)) hx hb hown (hts _ (List.mem_cons_of_mem _ mw534)) dX0_read_21 ?_
      refine lv_icmp_lt (tgt := 28) hx hb dX0_read_23 (by decide) (fun c_23 => ?_) (fun c_23 => ?_)
      · have hF := hF.trans (if_pos c_23)
        refine lv_iload_n hx hb dX0_read_28 rfl (lv_at hl 2 rfl) ?_
        refine lv_iconst (v := (2 : Int32)) hx hb dX0_read_29 (by decide) ?_
        refine lv_iushr (v := (ushr x2 (2 : Int32))) hx hb dX0_read_30 rfl ?_
        refine lv_ldc (v := (1048575 : Int32)) hx hb hown (hts _ (List.mem_cons_of_mem _ mw535)) dX0_read_31 ?_
        refine lv_iand hx hb dX0_read_33 ?_
        refine lv_istore_n (lv' := [(3, .int ((ushr x2 (2 : Int32)) &&& (1048575 : Int32))), (0, .ref (gad g 18)), (1, .int x1), (2, .int x2)]) hx hb dX0_read_34 rfl hl (by decide) rfl (fun ls hl => ?_)
        refine lv_aload_n hx hb dX0_read_35 rfl (lv_at hl 1 rfl) ?_
        refine lv_iload_n hx hb dX0_read_36 rfl (lv_at hl 0 rfl) ?_
        refine cx_Vi (As := [.int ((ushr x2 (2 : Int32)) &&& (1048575 : Int32))]) (rest := []) C (c_cBus_deviceWord l g st ((ushr x2 (2 : Int32)) &&& (1048575 : Int32))) (cwV 1 hts (gd_V _ mw536 mw537 mw538 mw42 mw539) rfl rfl rfl yd_yX0_deviceWord ⟨Nat.le_of_ble_eq_true rfl, Nat.le_of_ble_eq_true rfl⟩) (va_recv hK hI.1 (ci := 0) (q0 := 18) rfl rfl) hI rfl hl.1 rfl (Nat.le_of_ble_eq_true rfl) dX0_read_37 (fun H locs hI => ?_)
        refine lv_istore (lv' := [(4, .int (cBus_deviceWord st ((ushr x2 (2 : Int32)) &&& (1048575 : Int32)))), (3, .int ((ushr x2 (2 : Int32)) &&& (1048575 : Int32))), (0, .ref (gad g 18)), (1, .int x1), (2, .int x2)]) hx hb dX0_read_40 hl (by decide) rfl (fun ls hl => ?_)
        refine lv_iload_n hx hb dX0_read_42 rfl (lv_at hl 1 rfl) ?_
        refine cx_Si (As := [.int ((ushr x2 (2 : Int32)) &&& (1048575 : Int32))]) (rest := []) C (c_cBus_isOfController l g st ((ushr x2 (2 : Int32)) &&& (1048575 : Int32))) (va_cwS 1 hts (gd_S _ mw540 mw541 mw42 mw542) rfl rfl rfl yd_yX0_isOfController ⟨Nat.le_of_ble_eq_true rfl, Nat.le_of_ble_eq_true rfl⟩) hI rfl hl.1 rfl (Nat.le_of_ble_eq_true rfl) dX0_read_43 (fun H locs hI => ?_)
        refine lv_if_eq (tgt := 63) hx hb dX0_read_46 (by decide) (fun c_46 => ?_) (fun c_46 => ?_)
        · have hF := hF.trans (if_pos c_46)
          refine lv_iload_n hx hb dX0_read_63 rfl (lv_at hl 1 rfl) ?_
          refine cx_Si (As := [.int ((ushr x2 (2 : Int32)) &&& (1048575 : Int32))]) (rest := []) C (c_cBus_isOfDisk l g st ((ushr x2 (2 : Int32)) &&& (1048575 : Int32))) (va_cwS 1 hts (gd_S _ mw556 mw557 mw42 mw558) rfl rfl rfl yd_yX0_isOfDisk ⟨Nat.le_of_ble_eq_true rfl, Nat.le_of_ble_eq_true rfl⟩) hI rfl hl.1 rfl (Nat.le_of_ble_eq_true rfl) dX0_read_64 (fun H locs hI => ?_)
          refine lv_if_eq (tgt := 80) hx hb dX0_read_67 (by decide) (fun c_67 => ?_) (fun c_67 => ?_)
          · have hF := hF.trans (if_pos c_67)
            refine lv_iload hx hb dX0_read_80 (lv_at hl 0 rfl) ?_
            exact cx_iret C hI (congrArg Prod.fst hF) (congrArg Prod.snd hF) dX0_read_82
          · have hF := hF.trans (if_neg c_67)
            refine lv_aload_n hx hb dX0_read_70 rfl (lv_at hl 2 rfl) ?_
            refine va_get (D := gD g) (ci := 0) (C := RX0) (T := TX0) (N := 5) (v := .ref (gad g 10)) hx hb hts (fun w h => List.mem_cons_of_mem _ (isX00 w h)) hown hK hI.1 18 rfl rfl 3 (by decide) (hts _ (List.mem_cons_of_mem _ mw104)) (fun _ h9 => h9) rfl dX0_read_71 ?_
            refine lv_iload_n hx hb dX0_read_74 rfl (lv_at hl 1 rfl) ?_
            refine lv_iconst (v := (3 : Int32)) hx hb dX0_read_75 (by decide) ?_
            refine lv_iand hx hb dX0_read_76 ?_
            refine cx_Vv (As := [.int (((ushr x2 (2 : Int32)) &&& (1048575 : Int32)) &&& (3 : Int32))]) (rest := []) C (c_cDisk_isRead l g st (((ushr x2 (2 : Int32)) &&& (1048575 : Int32)) &&& (3 : Int32))) (cwV 1 hts (gd_V _ mw571 mw572 mw573 mw30 mw574) rfl rfl rfl yd_yX2_isRead ⟨Nat.le_of_ble_eq_true rfl, Nat.le_of_ble_eq_true rfl⟩) (va_recv hK hI.1 (ci := 2) (q0 := 10) rfl rfl) hI rfl hl.1 rfl (Nat.le_of_ble_eq_true rfl) dX0_read_77 (fun H locs hI => ?_)
            refine lv_iload hx hb dX0_read_80 (lv_at hl 0 rfl) ?_
            exact cx_iret C hI (congrArg Prod.fst hF) (congrArg Prod.snd hF) dX0_read_82
        · have hF := hF.trans (if_neg c_46)
          refine lv_aload_n hx hb dX0_read_49 rfl (lv_at hl 2 rfl) ?_
          refine va_get (D := gD g) (ci := 0) (C := RX0) (T := TX0) (N := 5) (v := .ref (gad g 12)) hx hb hts (fun w h => List.mem_cons_of_mem _ (isX00 w h)) hown hK hI.1 18 rfl rfl 2 (by decide) (hts _ (List.mem_cons_of_mem _ mw103)) (fun _ h9 => h9) rfl dX0_read_50 ?_
          refine lv_iload_n hx hb dX0_read_53 rfl (lv_at hl 1 rfl) ?_
          refine lv_bipush (v := (31 : Int32)) hx hb dX0_read_54 (by decide) ?_
          refine lv_iand hx hb dX0_read_56 ?_
          refine cx_Vv (As := [.int (((ushr x2 (2 : Int32)) &&& (1048575 : Int32)) &&& (31 : Int32))]) (rest := []) C (c_cController_isRead l g st (((ushr x2 (2 : Int32)) &&& (1048575 : Int32)) &&& (31 : Int32))) (cwV 1 hts (gd_V _ mw563 mw564 mw565 mw34 mw566) rfl rfl rfl yd_yX1_isRead ⟨Nat.le_of_ble_eq_true rfl, Nat.le_of_ble_eq_true rfl⟩) (va_recv hK hI.1 (ci := 1) (q0 := 12) rfl rfl) hI rfl hl.1 rfl (Nat.le_of_ble_eq_true rfl) dX0_read_57 (fun H locs hI => ?_)
          exact k_cBus_read_b60 g C (cController_isRead st (((ushr x2 (2 : Int32)) &&& (1048575 : Int32)) &&& (31 : Int32))) (cBus_deviceWord st ((ushr x2 (2 : Int32)) &&& (1048575 : Int32))) H locs ls hI (lv_sub hl [2, 0] rfl) X hF
      · have hF := hF.trans (if_neg c_23)
        refine lv_iconst (v := (0 : Int32)) hx hb dX0_read_26 (by decide) ?_
        exact cx_iret C hI (congrArg Prod.fst hF) (congrArg Prod.snd hF) dX0_read_27
  · have hF := hF.trans (if_neg c_4)
    refine lv_aload_n hx hb dX0_read_7 rfl (lv_at hl 0 rfl) ?_
    refine va_get (D := gD g) (ci := 0) (C := RX0) (T := TX0) (N := 5) (v := .ref (gad g 1)) hx hb hts (fun w h => List.mem_cons_of_mem _ (isX00 w h)) hown hK hI.1 18 rfl rfl 0 (by decide) (hts _ (List.mem_cons_of_mem _ mw101)) (fun _ h9 => h9) rfl dX0_read_8 ?_
    refine lv_iload_n hx hb dX0_read_11 rfl (lv_at hl 1 rfl) ?_
    refine va_iald (f := (gA st 0)) hx hb hK hI.1 1 0 rfl rfl (vin_mem c_4) dX0_read_12 ?_
    exact cx_iret C hI (congrArg Prod.fst hF) (congrArg Prod.snd hF) dX0_read_13
set_option maxHeartbeats 4000000 in
set_option maxRecDepth 100000 in
theorem c_cBus_read (l : Launch) (g : Gm) (st : CS) (x1 : Int32) (x2 : Int32) : Mi l yX0_read wq_X0_read rm_cBus_read (gD g) vwCl (cty g) (cw g) (cz g) [.ref (gad g 18), .int x1, .int x2] st (cBus_read st x1 x2).1 (cBus_read st x1 x2).2 := by
  intro sz
  refine Met.ofW (cc := cX0_read) (maxL := 5) (ret := (some .int)) (by decide) rfl ?_
  intro p e s m args below meth c s₁ B hml hv
  obtain ⟨rfl, hsz, hP, hK, hD0, hZ⟩ := hv
  subst hsz
  have hl := lv_entry ([.ref (gad g 18), .int x1, .int x2]) (n := 5) (Nat.le_of_ble_eq_true rfl)
  rw [lg_entry_eq]
  generalize (lg_sl ([.ref (gad g 18), .int x1, .int x2]) ++ List.replicate (5 - (lg_sl ([.ref (gad g 18), .int x1, .int x2])).length) Slot.unset).toArray = ls at hl ⊢
  exact k_cBus_read g ⟨B.exec, B.bytes, B.returns, hml, findClass_of_methodNamed B.named, atoms_spec (ws := wq_X0_read) B.pre, B.notSynchronized, hK, fun q h => Or.inr h, hZ, cz_ok g⟩ st x1 x2 _ _ ls ⟨hP, hD0.self, va_S.rf⟩ hl _ rfl
abbrev wq_X0_tellSetting : List Cond := .code yX0_tellSetting cX0_tellSetting 3 none :: wAll
theorem yd_yX0_tellSetting : yX0_tellSetting.cls = RX0 ∧ yX0_tellSetting.cls ≠ "java/lang/invoke/MethodHandle" ∧ yX0_tellSetting.cls ≠ "java/lang/invoke/VarHandle" ∧ (parseMethodDescriptor yX0_tellSetting.desc).map (fun d => d.parameters.length) = some 1 := by decide +kernel
abbrev rm_cBus_tellSetting : Room := { frames := 0, cells := 0, slots := 0, locals := 0 }
def cBus_tellSetting (st : CS) (x1 : Int32) : CS := (if ((ushr x1 (17 : Int32)) &&& (7 : Int32)) = (0 : Int32) then (sI st 26 ((ushr x1 (2 : Int32)) &&& (32767 : Int32))) else (if ((ushr x1 (17 : Int32)) &&& (7 : Int32)) = (1 : Int32) then (sI st 27 ((ushr x1 (2 : Int32)) &&& (32767 : Int32))) else (if ((ushr x1 (17 : Int32)) &&& (7 : Int32)) = (2 : Int32) then (sI st 28 ((ushr x1 (2 : Int32)) &&& (32767 : Int32))) else (if ((ushr x1 (17 : Int32)) &&& (7 : Int32)) = (7 : Int32) then (sI (sI st 29 ((ushr x1 (10 : Int32)) &&& (1 : Int32))) 1 ((ushr x1 (12 : Int32)) &&& (1 : Int32))) else st))))
set_option maxHeartbeats 4000000 in
set_option maxRecDepth 100000 in
theorem k_cBus_tellSetting {p : Program} {l : Launch} {e : Env} {s : State} {m : MethodId} {args : Array Value} {below : List Frame} {meth : Method} {c : Code} {A : Nat → Prop} (g : Gm) (C : cX p s m args meth c A cX0_tellSetting none 3 RX0 wq_X0_tellSetting (gD g) vwCl (cty g) (cz g)) (st : CS) (x1 : Int32) (H : Heap) (locs : List Loc) (ls : Array Slot) (hI : cI (gD g) vwCl (cw g) A s st H locs) (hl : lv_has ls 3 [(0, .ref (gad g 18)), (1, .int x1)]) (X : CS) (hF : X = cBus_tellSetting st x1) : W p l e rm_cBus_tellSetting s m args below meth c H locs 0 0 (MQ below (cQv (gD g) vwCl (cty g) (cw g) A X) args s 0 0 A) (F0 m 0 ls []) := by
  obtain ⟨hx, hb, hr, hml, hown, hts, hlocks, hK, hA, hZ, hzo⟩ := id C
  unfold cBus_tellSetting at hF
  refine lv_iload_n hx hb dX0_tellSetting_0 rfl (lv_at hl 1 rfl) ?_
  refine lv_iconst (v := (2 : Int32)) hx hb dX0_tellSetting_1 (by decide) ?_
  refine lv_iushr (v := (ushr x1 (2 : Int32))) hx hb dX0_tellSetting_2 rfl ?_
  refine lv_sipush (v := (32767 : Int32)) hx hb dX0_tellSetting_3 (by decide) ?_
  refine lv_iand hx hb dX0_tellSetting_6 ?_
  refine lv_istore_n (lv' := [(2, .int ((ushr x1 (2 : Int32)) &&& (32767 : Int32))), (0, .ref (gad g 18)), (1, .int x1)]) hx hb dX0_tellSetting_7 rfl hl (by decide) rfl (fun ls hl => ?_)
  refine lv_iload_n hx hb dX0_tellSetting_8 rfl (lv_at hl 2 rfl) ?_
  refine lv_bipush (v := (17 : Int32)) hx hb dX0_tellSetting_9 (by decide) ?_
  refine lv_iushr (v := (ushr x1 (17 : Int32))) hx hb dX0_tellSetting_11 rfl ?_
  refine lv_bipush (v := (7 : Int32)) hx hb dX0_tellSetting_12 (by decide) ?_
  refine lv_iand hx hb dX0_tellSetting_14 ?_
  by_cases c_15_0 : ((ushr x1 (17 : Int32)) &&& (7 : Int32)) = (0 : Int32)
  · have hF := hF.trans (if_pos c_15_0)
    refine lv_tableIn (off := 45) (tgt := 60) hx hb dX0_tellSetting_15 (by rw [c_15_0]; decide) (by rw [c_15_0]; decide) (by rw [c_15_0]; rfl) (by decide) ?_
    refine lv_aload_n hx hb dX0_tellSetting_60 rfl (lv_at hl 1 rfl) ?_
    refine va_get (D := gD g) (ci := 0) (C := RX0) (T := TX0) (N := 5) (v := .ref (gad g 15)) hx hb hts (fun w h => List.mem_cons_of_mem _ (isX00 w h)) hown hK hI.1 18 rfl rfl 4 (by decide) (hts _ (List.mem_cons_of_mem _ mw105)) (fun _ h9 => h9) rfl dX0_tellSetting_61 ?_
    refine lv_iload_n hx hb dX0_tellSetting_64 rfl (lv_at hl 0 rfl) ?_
    refine va_put (D := gD g) (ci := 7) (C := RX7) (T := TX7) (N := 12) (v := .int ((ushr x1 (2 : Int32)) &&& (32767 : Int32))) (ty := .int) hx hb hts (fun w h => List.mem_cons_of_mem _ (isX70 w h)) tyX7 tyX7_ok nmX7 hown hK hI.1 hI.2.1 hI.2.2 15 rfl rfl 6 (by decide) (hts _ (List.mem_cons_of_mem _ mw602)) (fun _ h9 => h9) rfl (by decide +kernel) rfl rfl (Nat.le_of_ble_eq_true rfl) dX0_tellSetting_65 (fun H locs hP hD hS => ?_)
    have hI : cI (gD g) vwCl (cw g) A s (sI st 26 ((ushr x1 (2 : Int32)) &&& (32767 : Int32))) H locs := ⟨hP, hD, hS⟩
    refine lv_goto (tgt := 122) hx hb dX0_tellSetting_68 (by decide) ?_
    exact cx_vret C hI hF dX0_tellSetting_122
  · have hF := hF.trans (if_neg c_15_0)
    by_cases c_15_1 : ((ushr x1 (17 : Int32)) &&& (7 : Int32)) = (1 : Int32)
    · have hF := hF.trans (if_pos c_15_1)
      refine lv_tableIn (off := 56) (tgt := 71) hx hb dX0_tellSetting_15 (by rw [c_15_1]; decide) (by rw [c_15_1]; decide) (by rw [c_15_1]; rfl) (by decide) ?_
      refine lv_aload_n hx hb dX0_tellSetting_71 rfl (lv_at hl 1 rfl) ?_
      refine va_get (D := gD g) (ci := 0) (C := RX0) (T := TX0) (N := 5) (v := .ref (gad g 15)) hx hb hts (fun w h => List.mem_cons_of_mem _ (isX00 w h)) hown hK hI.1 18 rfl rfl 4 (by decide) (hts _ (List.mem_cons_of_mem _ mw105)) (fun _ h9 => h9) rfl dX0_tellSetting_72 ?_
      refine lv_iload_n hx hb dX0_tellSetting_75 rfl (lv_at hl 0 rfl) ?_
      refine va_put (D := gD g) (ci := 7) (C := RX7) (T := TX7) (N := 12) (v := .int ((ushr x1 (2 : Int32)) &&& (32767 : Int32))) (ty := .int) hx hb hts (fun w h => List.mem_cons_of_mem _ (isX70 w h)) tyX7 tyX7_ok nmX7 hown hK hI.1 hI.2.1 hI.2.2 15 rfl rfl 7 (by decide) (hts _ (List.mem_cons_of_mem _ mw603)) (fun _ h9 => h9) rfl (by decide +kernel) rfl rfl (Nat.le_of_ble_eq_true rfl) dX0_tellSetting_76 (fun H locs hP hD hS => ?_)
      have hI : cI (gD g) vwCl (cw g) A s (sI st 27 ((ushr x1 (2 : Int32)) &&& (32767 : Int32))) H locs := ⟨hP, hD, hS⟩
      refine lv_goto (tgt := 122) hx hb dX0_tellSetting_79 (by decide) ?_
      exact cx_vret C hI hF dX0_tellSetting_122
    · have hF := hF.trans (if_neg c_15_1)
      by_cases c_15_2 : ((ushr x1 (17 : Int32)) &&& (7 : Int32)) = (2 : Int32)
      · have hF := hF.trans (if_pos c_15_2)
        refine lv_tableIn (off := 67) (tgt := 82) hx hb dX0_tellSetting_15 (by rw [c_15_2]; decide) (by rw [c_15_2]; decide) (by rw [c_15_2]; rfl) (by decide) ?_
        refine lv_aload_n hx hb dX0_tellSetting_82 rfl (lv_at hl 1 rfl) ?_
        refine va_get (D := gD g) (ci := 0) (C := RX0) (T := TX0) (N := 5) (v := .ref (gad g 15)) hx hb hts (fun w h => List.mem_cons_of_mem _ (isX00 w h)) hown hK hI.1 18 rfl rfl 4 (by decide) (hts _ (List.mem_cons_of_mem _ mw105)) (fun _ h9 => h9) rfl dX0_tellSetting_83 ?_
        refine lv_iload_n hx hb dX0_tellSetting_86 rfl (lv_at hl 0 rfl) ?_
        refine va_put (D := gD g) (ci := 7) (C := RX7) (T := TX7) (N := 12) (v := .int ((ushr x1 (2 : Int32)) &&& (32767 : Int32))) (ty := .int) hx hb hts (fun w h => List.mem_cons_of_mem _ (isX70 w h)) tyX7 tyX7_ok nmX7 hown hK hI.1 hI.2.1 hI.2.2 15 rfl rfl 8 (by decide) (hts _ (List.mem_cons_of_mem _ mw604)) (fun _ h9 => h9) rfl (by decide +kernel) rfl rfl (Nat.le_of_ble_eq_true rfl) dX0_tellSetting_87 (fun H locs hP hD hS => ?_)
        have hI : cI (gD g) vwCl (cw g) A s (sI st 28 ((ushr x1 (2 : Int32)) &&& (32767 : Int32))) H locs := ⟨hP, hD, hS⟩
        refine lv_goto (tgt := 122) hx hb dX0_tellSetting_90 (by decide) ?_
        exact cx_vret C hI hF dX0_tellSetting_122
      · have hF := hF.trans (if_neg c_15_2)
        by_cases c_15_3 : ((ushr x1 (17 : Int32)) &&& (7 : Int32)) = (7 : Int32)
        · have hF := hF.trans (if_pos c_15_3)
          refine lv_tableIn (off := 78) (tgt := 93) hx hb dX0_tellSetting_15 (by rw [c_15_3]; decide) (by rw [c_15_3]; decide) (by rw [c_15_3]; rfl) (by decide) ?_
          refine lv_aload_n hx hb dX0_tellSetting_93 rfl (lv_at hl 1 rfl) ?_
          refine va_get (D := gD g) (ci := 0) (C := RX0) (T := TX0) (N := 5) (v := .ref (gad g 15)) hx hb hts (fun w h => List.mem_cons_of_mem _ (isX00 w h)) hown hK hI.1 18 rfl rfl 4 (by decide) (hts _ (List.mem_cons_of_mem _ mw105)) (fun _ h9 => h9) rfl dX0_tellSetting_94 ?_
          refine lv_iload_n hx hb dX0_tellSetting_97 rfl (lv_at hl 2 rfl) ?_
          refine lv_bipush (v := (10 : Int32)) hx hb dX0_tellSetting_98 (by decide) ?_
          refine lv_iushr (v := (ushr x1 (10 : Int32))) hx hb dX0_tellSetting_100 rfl ?_
          refine lv_iconst (v := (1 : Int32)) hx hb dX0_tellSetting_101 (by decide) ?_
          refine lv_iand hx hb dX0_tellSetting_102 ?_
          refine va_put (D := gD g) (ci := 7) (C := RX7) (T := TX7) (N := 12) (v := .int ((ushr x1 (10 : Int32)) &&& (1 : Int32))) (ty := .int) hx hb hts (fun w h => List.mem_cons_of_mem _ (isX70 w h)) tyX7 tyX7_ok nmX7 hown hK hI.1 hI.2.1 hI.2.2 15 rfl rfl 9 (by decide) (hts _ (List.mem_cons_of_mem _ mw605)) (fun _ h9 => h9) rfl (by decide +kernel) rfl rfl (Nat.le_of_ble_eq_true rfl) dX0_tellSetting_103 (fun H locs hP hD hS => ?_)
          have hI : cI (gD g) vwCl (cw g) A s (sI st 29 ((ushr x1 (10 : Int32)) &&& (1 : Int32))) H locs := ⟨hP, hD, hS⟩
          refine lv_aload_n hx hb dX0_tellSetting_106 rfl (lv_at hl 1 rfl) ?_
          refine va_get (D := gD g) (ci := 0) (C := RX0) (T := TX0) (N := 5) (v := .ref (gad g 4)) hx hb hts (fun w h => List.mem_cons_of_mem _ (isX00 w h)) hown hK hI.1 18 rfl rfl 1 (by decide) (hts _ (List.mem_cons_of_mem _ mw102)) (fun _ h9 => h9) rfl dX0_tellSetting_107 ?_
          refine lv_iload_n hx hb dX0_tellSetting_110 rfl (lv_at hl 2 rfl) ?_
          refine lv_bipush (v := (12 : Int32)) hx hb dX0_tellSetting_111 (by decide) ?_
          refine lv_iushr (v := (ushr x1 (12 : Int32))) hx hb dX0_tellSetting_113 rfl ?_
          refine lv_iconst (v := (1 : Int32)) hx hb dX0_tellSetting_114 (by decide) ?_
          refine lv_iand hx hb dX0_tellSetting_115 ?_
          refine va_put (D := gD g) (ci := 3) (C := RX3) (T := TX3) (N := 3) (v := .int ((ushr x1 (12 : Int32)) &&& (1 : Int32))) (ty := .int) hx hb hts (fun w h => List.mem_cons_of_mem _ (isX30 w h)) tyX3 tyX3_ok nmX3 hown hK hI.1 hI.2.1 hI.2.2 4 rfl rfl 2 (by decide) (hts _ (List.mem_cons_of_mem _ mw606)) (fun _ h9 => h9) rfl (by decide +kernel) rfl rfl (Nat.le_of_ble_eq_true rfl) dX0_tellSetting_116 (fun H locs hP hD hS => ?_)
          have hI : cI (gD g) vwCl (cw g) A s (sI (sI st 29 ((ushr x1 (10 : Int32)) &&& (1 : Int32))) 1 ((ushr x1 (12 : Int32)) &&& (1 : Int32))) H locs := ⟨hP, hD, hS⟩
          refine lv_goto (tgt := 122) hx hb dX0_tellSetting_119 (by decide) ?_
          exact cx_vret C hI hF dX0_tellSetting_122
        · have hF := hF.trans (if_neg c_15_3)
          by_cases cg_15_3 : ((ushr x1 (17 : Int32)) &&& (7 : Int32)) = (3 : Int32)
          · refine lv_tableIn (off := 107) (tgt := 122) hx hb dX0_tellSetting_15 (by rw [cg_15_3]; decide) (by rw [cg_15_3]; decide) (by rw [cg_15_3]; rfl) (by decide) ?_
            exact cx_vret C hI hF dX0_tellSetting_122
          by_cases cg_15_4 : ((ushr x1 (17 : Int32)) &&& (7 : Int32)) = (4 : Int32)
          · refine lv_tableIn (off := 107) (tgt := 122) hx hb dX0_tellSetting_15 (by rw [cg_15_4]; decide) (by rw [cg_15_4]; decide) (by rw [cg_15_4]; rfl) (by decide) ?_
            exact cx_vret C hI hF dX0_tellSetting_122
          by_cases cg_15_5 : ((ushr x1 (17 : Int32)) &&& (7 : Int32)) = (5 : Int32)
          · refine lv_tableIn (off := 107) (tgt := 122) hx hb dX0_tellSetting_15 (by rw [cg_15_5]; decide) (by rw [cg_15_5]; decide) (by rw [cg_15_5]; rfl) (by decide) ?_
            exact cx_vret C hI hF dX0_tellSetting_122
          by_cases cg_15_6 : ((ushr x1 (17 : Int32)) &&& (7 : Int32)) = (6 : Int32)
          · refine lv_tableIn (off := 107) (tgt := 122) hx hb dX0_tellSetting_15 (by rw [cg_15_6]; decide) (by rw [cg_15_6]; decide) (by rw [cg_15_6]; rfl) (by decide) ?_
            exact cx_vret C hI hF dX0_tellSetting_122
          refine lv_tableOut (tgt := 122) hx hb dX0_tellSetting_15 (by have h0 := lv_neT (a := 0) c_15_0 (by decide); have h1 := lv_neT (a := 1) c_15_1 (by decide); have h2 := lv_neT (a := 2) c_15_2 (by decide); have h3 := lv_neT (a := 7) c_15_3 (by decide); have g0 := lv_neT (a := 3) cg_15_3 (by decide); have g1 := lv_neT (a := 4) cg_15_4 (by decide); have g2 := lv_neT (a := 5) cg_15_5 (by decide); have g3 := lv_neT (a := 6) cg_15_6 (by decide); omega) (by decide) ?_
          exact cx_vret C hI hF dX0_tellSetting_122
set_option maxHeartbeats 4000000 in
set_option maxRecDepth 100000 in
theorem c_cBus_tellSetting (l : Launch) (g : Gm) (st : CS) (x1 : Int32) : Mv l yX0_tellSetting wq_X0_tellSetting rm_cBus_tellSetting (gD g) vwCl (cty g) (cw g) (cz g) [.ref (gad g 18), .int x1] st (cBus_tellSetting st x1) := by
  intro sz
  refine Met.ofW (cc := cX0_tellSetting) (maxL := 3) (ret := none) (by decide) rfl ?_
  intro p e s m args below meth c s₁ B hml hv
  obtain ⟨rfl, hsz, hP, hK, hD0, hZ⟩ := hv
  subst hsz
  have hl := lv_entry ([.ref (gad g 18), .int x1]) (n := 3) (Nat.le_of_ble_eq_true rfl)
  rw [lg_entry_eq]
  generalize (lg_sl ([.ref (gad g 18), .int x1]) ++ List.replicate (3 - (lg_sl ([.ref (gad g 18), .int x1])).length) Slot.unset).toArray = ls at hl ⊢
  exact k_cBus_tellSetting g ⟨B.exec, B.bytes, B.returns, hml, findClass_of_methodNamed B.named, atoms_spec (ws := wq_X0_tellSetting) B.pre, B.notSynchronized, hK, fun q h => Or.inr h, hZ, cz_ok g⟩ st x1 _ _ ls ⟨hP, hD0.self, va_S.rf⟩ hl _ rfl
abbrev wq_X0_write : List Cond := .code yX0_write cX0_write 5 none :: wAll
theorem yd_yX0_write : yX0_write.cls = RX0 ∧ yX0_write.cls ≠ "java/lang/invoke/MethodHandle" ∧ yX0_write.cls ≠ "java/lang/invoke/VarHandle" ∧ (parseMethodDescriptor yX0_write.desc).map (fun d => d.parameters.length) = some 3 := by decide +kernel
abbrev rm_cBus_write : Room := { frames := 2, cells := 0, slots := 0, locals := 44 }
def cBus_write_b98 (st : CS) : CS := st
set_option maxHeartbeats 4000000 in
set_option maxRecDepth 100000 in
theorem k_cBus_write_b98 {p : Program} {l : Launch} {e : Env} {s : State} {m : MethodId} {args : Array Value} {below : List Frame} {meth : Method} {c : Code} {A : Nat → Prop} (g : Gm) (C : cX p s m args meth c A cX0_write none 5 RX0 wq_X0_write (gD g) vwCl (cty g) (cz g)) (st : CS) (H : Heap) (locs : List Loc) (ls : Array Slot) (hI : cI (gD g) vwCl (cw g) A s st H locs) (hl : lv_has ls 5 [(0, .ref (gad g 18))]) (X : CS) (hF : X = cBus_write_b98 st ) : W p l e rm_cBus_write s m args below meth c H locs 0 0 (MQ below (cQv (gD g) vwCl (cty g) (cw g) A X) args s 0 0 A) (F0 m 98 ls []) := by
  obtain ⟨hx, hb, hr, hml, hown, hts, hlocks, hK, hA, hZ, hzo⟩ := id C
  unfold cBus_write_b98 at hF
  refine lv_goto (tgt := 125) hx hb dX0_write_98 (by decide) ?_
  exact cx_vret C hI hF dX0_write_125
def cBus_write_b70 (st : CS) : CS := st
set_option maxHeartbeats 4000000 in
set_option maxRecDepth 100000 in
theorem k_cBus_write_b70 {p : Program} {l : Launch} {e : Env} {s : State} {m : MethodId} {args : Array Value} {below : List Frame} {meth : Method} {c : Code} {A : Nat → Prop} (g : Gm) (C : cX p s m args meth c A cX0_write none 5 RX0 wq_X0_write (gD g) vwCl (cty g) (cz g)) (st : CS) (H : Heap) (locs : List Loc) (ls : Array Slot) (hI : cI (gD g) vwCl (cw g) A s st H locs) (hl : lv_has ls 5 [(0, .ref (gad g 18))]) (X : CS) (hF : X = cBus_write_b70 st ) : W p l e rm_cBus_write s m args below meth c H locs 0 0 (MQ below (cQv (gD g) vwCl (cty g) (cw g) A X) args s 0 0 A) (F0 m 70 ls []) := by
  obtain ⟨hx, hb, hr, hml, hown, hts, hlocks, hK, hA, hZ, hzo⟩ := id C
  unfold cBus_write_b70 at hF
  refine lv_goto (tgt := 125) hx hb dX0_write_70 (by decide) ?_
  exact cx_vret C hI hF dX0_write_125
def cBus_write_b53 (st : CS) : CS := st
set_option maxHeartbeats 4000000 in
set_option maxRecDepth 100000 in
theorem k_cBus_write_b53 {p : Program} {l : Launch} {e : Env} {s : State} {m : MethodId} {args : Array Value} {below : List Frame} {meth : Method} {c : Code} {A : Nat → Prop} (g : Gm) (C : cX p s m args meth c A cX0_write none 5 RX0 wq_X0_write (gD g) vwCl (cty g) (cz g)) (st : CS) (H : Heap) (locs : List Loc) (ls : Array Slot) (hI : cI (gD g) vwCl (cw g) A s st H locs) (hl : lv_has ls 5 [(0, .ref (gad g 18))]) (X : CS) (hF : X = cBus_write_b53 st ) : W p l e rm_cBus_write s m args below meth c H locs 0 0 (MQ below (cQv (gD g) vwCl (cty g) (cw g) A X) args s 0 0 A) (F0 m 53 ls []) := by
  obtain ⟨hx, hb, hr, hml, hown, hts, hlocks, hK, hA, hZ, hzo⟩ := id C
  unfold cBus_write_b53 at hF
  refine lv_goto (tgt := 125) hx hb dX0_write_53 (by decide) ?_
  exact cx_vret C hI hF dX0_write_125
def cBus_write_b39 (st : CS) : CS := st
set_option maxHeartbeats 4000000 in
set_option maxRecDepth 100000 in
theorem k_cBus_write_b39 {p : Program} {l : Launch} {e : Env} {s : State} {m : MethodId} {args : Array Value} {below : List Frame} {meth : Method} {c : Code} {A : Nat → Prop} (g : Gm) (C : cX p s m args meth c A cX0_write none 5 RX0 wq_X0_write (gD g) vwCl (cty g) (cz g)) (st : CS) (H : Heap) (locs : List Loc) (ls : Array Slot) (hI : cI (gD g) vwCl (cw g) A s st H locs) (hl : lv_has ls 5 [(0, .ref (gad g 18))]) (X : CS) (hF : X = cBus_write_b39 st ) : W p l e rm_cBus_write s m args below meth c H locs 0 0 (MQ below (cQv (gD g) vwCl (cty g) (cw g) A X) args s 0 0 A) (F0 m 39 ls []) := by
  obtain ⟨hx, hb, hr, hml, hown, hts, hlocks, hK, hA, hZ, hzo⟩ := id C
  unfold cBus_write_b39 at hF
  refine lv_goto (tgt := 125) hx hb dX0_write_39 (by decide) ?_
  exact cx_vret C hI hF dX0_write_125
def cBus_write (st : CS) (x1 : Int32) (x2 : Int32) (x3 : Int32) : CS := (if ((cBus_isInMemory x1) = 0) then (if (x2 < (58720256 : Int32)) then (if (x2 < (56623104 : Int32)) then (if (x2 < (54525952 : Int32)) then (if ((cBus_isOfController ((ushr x2 (2 : Int32)) &&& (1048575 : Int32))) = 0) then (if ((cBus_isOfDisk ((ushr x2 (2 : Int32)) &&& (1048575 : Int32))) = 0) then st else (cDisk_write st (((ushr x2 (2 : Int32)) &&& (1048575 : Int32)) &&& (3 : Int32)) (x3 &&& (255 : Int32)))) else (cBus_write_b98 (cController_write st (((ushr x2 (2 : Int32)) &&& (1048575 : Int32)) &&& (31 : Int32)) (x3 &&& (255 : Int32))) )) else (cBus_write_b70 (cScreen_written st x3) )) else (cBus_write_b53 (cBus_tellSetting st x2) )) else (cBus_write_b39 (cEntries_tell st x2) )) else (sA st 0 (upd (gA st 0) x1.toNatClampNeg x3)))
set_option maxHeartbeats 4000000 in
set_option maxRecDepth 100000 in
theorem k_cBus_write {p : Program} {l : Launch} {e : Env} {s : State} {m : MethodId} {args : Array Value} {below : List Frame} {meth : Method} {c : Code} {A : Nat → Prop} (g : Gm) (C : cX p s m args meth c A cX0_write none 5 RX0 wq_X0_write (gD g) vwCl (cty g) (cz g)) (st : CS) (x1 : Int32) (x2 : Int32) (x3 : Int32) (H : Heap) (locs : List Loc) (ls : Array Slot) (hI : cI (gD g) vwCl (cw g) A s st H locs) (hl : lv_has ls 5 [(0, .ref (gad g 18)), (1, .int x1), (2, .int x2), (3, .int x3)]) (X : CS) (hF : X = cBus_write st x1 x2 x3) : W p l e rm_cBus_write s m args below meth c H locs 0 0 (MQ below (cQv (gD g) vwCl (cty g) (cw g) A X) args s 0 0 A) (F0 m 0 ls []) := by
  obtain ⟨hx, hb, hr, hml, hown, hts, hlocks, hK, hA, hZ, hzo⟩ := id C
  unfold cBus_write at hF
  refine lv_iload_n hx hb dX0_write_0 rfl (lv_at hl 2 rfl) ?_
  refine lv_iconst (v := (2 : Int32)) hx hb dX0_write_1 (by decide) ?_
  refine lv_iushr (v := (ushr x2 (2 : Int32))) hx hb dX0_write_2 rfl ?_
  refine lv_ldc (v := (1048575 : Int32)) hx hb hown (hts _ (List.mem_cons_of_mem _ mw535)) dX0_write_3 ?_
  refine lv_iand hx hb dX0_write_5 ?_
  refine lv_istore (lv' := [(4, .int ((ushr x2 (2 : Int32)) &&& (1048575 : Int32))), (0, .ref (gad g 18)), (1, .int x1), (2, .int x2), (3, .int x3)]) hx hb dX0_write_6 hl (by decide) rfl (fun ls hl => ?_)
  refine lv_iload_n hx hb dX0_write_8 rfl (lv_at hl 2 rfl) ?_
  refine cx_Si (As := [.int x1]) (rest := []) C (c_cBus_isInMemory l g st x1) (va_cwS 1 hts (gd_S _ mw351 mw352 mw42 mw353) rfl rfl rfl yd_yX0_isInMemory ⟨Nat.le_of_ble_eq_true rfl, Nat.le_of_ble_eq_true rfl⟩) hI rfl hl.1 rfl (Nat.le_of_ble_eq_true rfl) dX0_write_9 (fun H locs hI => ?_)
  refine lv_if_eq (tgt := 25) hx hb dX0_write_12 (by decide) (fun c_12 => ?_) (fun c_12 => ?_)
  · have hF := hF.trans (if_pos c_12)
    refine lv_iload_n hx hb dX0_write_25 rfl (lv_at hl 3 rfl) ?_
    refine lv_ldc (v := (58720256 : Int32)) hx hb hown (hts _ (List.mem_cons_of_mem _ mw592)) dX0_write_26 ?_
    refine lv_icmp_lt (tgt := 42) hx hb dX0_write_28 (by decide) (fun c_28 => ?_) (fun c_28 => ?_)
    · have hF := hF.trans (if_pos c_28)
      refine lv_iload_n hx hb dX0_write_42 rfl (lv_at hl 3 rfl) ?_
      refine lv_ldc (v := (56623104 : Int32)) hx hb hown (hts _ (List.mem_cons_of_mem _ mw593)) dX0_write_43 ?_
      refine lv_icmp_lt (tgt := 56) hx hb dX0_write_45 (by decide) (fun c_45 => ?_) (fun c_45 => ?_)
      · have hF := hF.trans (if_pos c_45)
        refine lv_iload_n hx hb dX0_write_56 rfl (lv_at hl 3 rfl) ?_
        refine lv_ldc (v := (54525952 : Int32)) hx hb hown (hts _ (List.mem_cons_of_mem _ mw534)) dX0_write_57 ?_
        refine lv_icmp_lt (tgt := 73) hx hb dX0_write_59 (by decide) (fun c_59 => ?_) (fun c_59 => ?_)
        · have hF := hF.trans (if_pos c_59)
          refine lv_iload hx hb dX0_write_73 (lv_at hl 0 rfl) ?_
          refine cx_Si (As := [.int ((ushr x2 (2 : Int32)) &&& (1048575 : Int32))]) (rest := []) C (c_cBus_isOfController l g st ((ushr x2 (2 : Int32)) &&& (1048575 : Int32))) (va_cwS 1 hts (gd_S _ mw540 mw541 mw42 mw542) rfl rfl rfl yd_yX0_isOfController ⟨Nat.le_of_ble_eq_true rfl, Nat.le_of_ble_eq_true rfl⟩) hI rfl hl.1 rfl (Nat.le_of_ble_eq_true rfl) dX0_write_75 (fun H locs hI => ?_)
          refine lv_if_eq (tgt := 101) hx hb dX0_write_78 (by decide) (fun c_78 => ?_) (fun c_78 => ?_)
          · have hF := hF.trans (if_pos c_78)
            refine lv_iload hx hb dX0_write_101 (lv_at hl 0 rfl) ?_
            refine cx_Si (As := [.int ((ushr x2 (2 : Int32)) &&& (1048575 : Int32))]) (rest := []) C (c_cBus_isOfDisk l g st ((ushr x2 (2 : Int32)) &&& (1048575 : Int32))) (va_cwS 1 hts (gd_S _ mw556 mw557 mw42 mw558) rfl rfl rfl yd_yX0_isOfDisk ⟨Nat.le_of_ble_eq_true rfl, Nat.le_of_ble_eq_true rfl⟩) hI rfl hl.1 rfl (Nat.le_of_ble_eq_true rfl) dX0_write_103 (fun H locs hI => ?_)
            refine lv_if_eq (tgt := 125) hx hb dX0_write_106 (by decide) (fun c_106 => ?_) (fun c_106 => ?_)
            · have hF := hF.trans (if_pos c_106)
              exact cx_vret C hI hF dX0_write_125
            · have hF := hF.trans (if_neg c_106)
              refine lv_aload_n hx hb dX0_write_109 rfl (lv_at hl 1 rfl) ?_
              refine va_get (D := gD g) (ci := 0) (C := RX0) (T := TX0) (N := 5) (v := .ref (gad g 10)) hx hb hts (fun w h => List.mem_cons_of_mem _ (isX00 w h)) hown hK hI.1 18 rfl rfl 3 (by decide) (hts _ (List.mem_cons_of_mem _ mw104)) (fun _ h9 => h9) rfl dX0_write_110 ?_
              refine lv_iload hx hb dX0_write_113 (lv_at hl 0 rfl) ?_
              refine lv_iconst (v := (3 : Int32)) hx hb dX0_write_115 (by decide) ?_
              refine lv_iand hx hb dX0_write_116 ?_
              refine lv_iload_n hx hb dX0_write_117 rfl (lv_at hl 4 rfl) ?_
              refine lv_sipush (v := (255 : Int32)) hx hb dX0_write_118 (by decide) ?_
              refine lv_iand hx hb dX0_write_121 ?_
              refine cx_Vv (As := [.int (((ushr x2 (2 : Int32)) &&& (1048575 : Int32)) &&& (3 : Int32)), .int (x3 &&& (255 : Int32))]) (rest := []) C (c_cDisk_write l g st (((ushr x2 (2 : Int32)) &&& (1048575 : Int32)) &&& (3 : Int32)) (x3 &&& (255 : Int32))) (cwV 2 hts (gd_V _ mw625 mw626 mw627 mw30 mw628) rfl rfl rfl yd_yX2_write ⟨Nat.le_of_ble_eq_true rfl, Nat.le_of_ble_eq_true rfl⟩) (va_recv hK hI.1 (ci := 2) (q0 := 10) rfl rfl) hI rfl hl.1 rfl (Nat.le_of_ble_eq_true rfl) dX0_write_122 (fun H locs hI => ?_)
              exact cx_vret C hI hF dX0_write_125
          · have hF := hF.trans (if_neg c_78)
            refine lv_aload_n hx hb dX0_write_81 rfl (lv_at hl 1 rfl) ?_
            refine va_get (D := gD g) (ci := 0) (C := RX0) (T := TX0) (N := 5) (v := .ref (gad g 12)) hx hb hts (fun w h => List.mem_cons_of_mem _ (isX00 w h)) hown hK hI.1 18 rfl rfl 2 (by decide) (hts _ (List.mem_cons_of_mem _ mw103)) (fun _ h9 => h9) rfl dX0_write_82 ?_
            refine lv_iload hx hb dX0_write_85 (lv_at hl 0 rfl) ?_
            refine lv_bipush (v := (31 : Int32)) hx hb dX0_write_87 (by decide) ?_
            refine lv_iand hx hb dX0_write_89 ?_
            refine lv_iload_n hx hb dX0_write_90 rfl (lv_at hl 4 rfl) ?_
            refine lv_sipush (v := (255 : Int32)) hx hb dX0_write_91 (by decide) ?_
            refine lv_iand hx hb dX0_write_94 ?_
            refine cx_Vv (As := [.int (((ushr x2 (2 : Int32)) &&& (1048575 : Int32)) &&& (31 : Int32)), .int (x3 &&& (255 : Int32))]) (rest := []) C (c_cController_write l g st (((ushr x2 (2 : Int32)) &&& (1048575 : Int32)) &&& (31 : Int32)) (x3 &&& (255 : Int32))) (cwV 2 hts (gd_V _ mw611 mw612 mw613 mw34 mw614) rfl rfl rfl yd_yX1_write ⟨Nat.le_of_ble_eq_true rfl, Nat.le_of_ble_eq_true rfl⟩) (va_recv hK hI.1 (ci := 1) (q0 := 12) rfl rfl) hI rfl hl.1 rfl (Nat.le_of_ble_eq_true rfl) dX0_write_95 (fun H locs hI => ?_)
            exact k_cBus_write_b98 g C (cController_write st (((ushr x2 (2 : Int32)) &&& (1048575 : Int32)) &&& (31 : Int32)) (x3 &&& (255 : Int32)))  H locs ls hI (lv_sub hl [1] rfl) X hF
        · have hF := hF.trans (if_neg c_59)
          refine lv_aload_n hx hb dX0_write_62 rfl (lv_at hl 1 rfl) ?_
          refine va_get (D := gD g) (ci := 0) (C := RX0) (T := TX0) (N := 5) (v := .ref (gad g 15)) hx hb hts (fun w h => List.mem_cons_of_mem _ (isX00 w h)) hown hK hI.1 18 rfl rfl 4 (by decide) (hts _ (List.mem_cons_of_mem _ mw105)) (fun _ h9 => h9) rfl dX0_write_63 ?_
          refine lv_iload_n hx hb dX0_write_66 rfl (lv_at hl 4 rfl) ?_
          refine cx_Vv (As := [.int x3]) (rest := []) C (c_cScreen_written l g st x3) (cwV 1 hts (gd_V _ mw607 mw608 mw609 mw38 mw610) rfl rfl rfl yd_yX7_written ⟨Nat.le_of_ble_eq_true rfl, Nat.le_of_ble_eq_true rfl⟩) (va_recv hK hI.1 (ci := 7) (q0 := 15) rfl rfl) hI rfl hl.1 rfl (Nat.le_of_ble_eq_true rfl) dX0_write_67 (fun H locs hI => ?_)
          exact k_cBus_write_b70 g C (cScreen_written st x3)  H locs ls hI (lv_sub hl [1] rfl) X hF
      · have hF := hF.trans (if_neg c_45)
        refine lv_aload_n hx hb dX0_write_48 rfl (lv_at hl 1 rfl) ?_
        refine lv_iload_n hx hb dX0_write_49 rfl (lv_at hl 3 rfl) ?_
        refine cx_Vv (As := [.int x2]) (rest := []) C (c_cBus_tellSetting l g st x2) (cwV 1 hts (gd_V _ mw598 mw599 mw600 mw42 mw601) rfl rfl rfl yd_yX0_tellSetting ⟨Nat.le_of_ble_eq_true rfl, Nat.le_of_ble_eq_true rfl⟩) (va_recv hK hI.1 (ci := 0) (q0 := 18) rfl rfl) hI rfl hl.1 rfl (Nat.le_of_ble_eq_true rfl) dX0_write_50 (fun H locs hI => ?_)
        exact k_cBus_write_b53 g C (cBus_tellSetting st x2)  H locs ls hI (lv_sub hl [1] rfl) X hF
    · have hF := hF.trans (if_neg c_28)
      refine lv_aload_n hx hb dX0_write_31 rfl (lv_at hl 1 rfl) ?_
      refine va_get (D := gD g) (ci := 0) (C := RX0) (T := TX0) (N := 5) (v := .ref (gad g 4)) hx hb hts (fun w h => List.mem_cons_of_mem _ (isX00 w h)) hown hK hI.1 18 rfl rfl 1 (by decide) (hts _ (List.mem_cons_of_mem _ mw102)) (fun _ h9 => h9) rfl dX0_write_32 ?_
      refine lv_iload_n hx hb dX0_write_35 rfl (lv_at hl 3 rfl) ?_
      refine cx_Vv (As := [.int x2]) (rest := []) C (c_cEntries_tell l g st x2) (cwV 1 hts (gd_V _ mw594 mw595 mw596 mw18 mw597) rfl rfl rfl yd_yX3_tell ⟨Nat.le_of_ble_eq_true rfl, Nat.le_of_ble_eq_true rfl⟩) (va_recv hK hI.1 (ci := 3) (q0 := 4) rfl rfl) hI rfl hl.1 rfl (Nat.le_of_ble_eq_true rfl) dX0_write_36 (fun H locs hI => ?_)
      exact k_cBus_write_b39 g C (cEntries_tell st x2)  H locs ls hI (lv_sub hl [1] rfl) X hF
  · have hF := hF.trans (if_neg c_12)
    refine lv_aload_n hx hb dX0_write_15 rfl (lv_at hl 1 rfl) ?_
    refine va_get (D := gD g) (ci := 0) (C := RX0) (T := TX0) (N := 5) (v := .ref (gad g 1)) hx hb hts (fun w h => List.mem_cons_of_mem _ (isX00 w h)) hown hK hI.1 18 rfl rfl 0 (by decide) (hts _ (List.mem_cons_of_mem _ mw101)) (fun _ h9 => h9) rfl dX0_write_16 ?_
    refine lv_iload_n hx hb dX0_write_19 rfl (lv_at hl 2 rfl) ?_
    refine lv_iload_n hx hb dX0_write_20 rfl (lv_at hl 4 rfl) ?_
    refine va_iast (f := (gA st 0)) hx hb hK hI.1 hI.2.1 hI.2.2 1 0 rfl rfl (vin_mem c_12) dX0_write_21 (fun H locs hP hD hS => ?_)
    have hI : cI (gD g) vwCl (cw g) A s (sA st 0 (upd (gA st 0) x1.toNatClampNeg x3)) H locs := ⟨hP, hD, hS⟩
    refine lv_goto (tgt := 125) hx hb dX0_write_22 (by decide) ?_
    exact cx_vret C hI hF dX0_write_125
set_option maxHeartbeats 4000000 in
set_option maxRecDepth 100000 in
theorem c_cBus_write (l : Launch) (g : Gm) (st : CS) (x1 : Int32) (x2 : Int32) (x3 : Int32) : Mv l yX0_write wq_X0_write rm_cBus_write (gD g) vwCl (cty g) (cw g) (cz g) [.ref (gad g 18), .int x1, .int x2, .int x3] st (cBus_write st x1 x2 x3) := by
  intro sz
  refine Met.ofW (cc := cX0_write) (maxL := 5) (ret := none) (by decide) rfl ?_
  intro p e s m args below meth c s₁ B hml hv
  obtain ⟨rfl, hsz, hP, hK, hD0, hZ⟩ := hv
  subst hsz
  have hl := lv_entry ([.ref (gad g 18), .int x1, .int x2, .int x3]) (n := 5) (Nat.le_of_ble_eq_true rfl)
  rw [lg_entry_eq]
  generalize (lg_sl ([.ref (gad g 18), .int x1, .int x2, .int x3]) ++ List.replicate (5 - (lg_sl ([.ref (gad g 18), .int x1, .int x2, .int x3])).length) Slot.unset).toArray = ls at hl ⊢
  exact k_cBus_write g ⟨B.exec, B.bytes, B.returns, hml, findClass_of_methodNamed B.named, atoms_spec (ws := wq_X0_write) B.pre, B.notSynchronized, hK, fun q h => Or.inr h, hZ, cz_ok g⟩ st x1 x2 x3 _ _ ls ⟨hP, hD0.self, va_S.rf⟩ hl _ rfl
abbrev wq_X0_writeByte : List Cond := .code yX0_writeByte cX0_writeByte 6 none :: wAll
theorem yd_yX0_writeByte : yX0_writeByte.cls = RX0 ∧ yX0_writeByte.cls ≠ "java/lang/invoke/MethodHandle" ∧ yX0_writeByte.cls ≠ "java/lang/invoke/VarHandle" ∧ (parseMethodDescriptor yX0_writeByte.desc).map (fun d => d.parameters.length) = some 3 := by decide +kernel
abbrev rm_cBus_writeByte : Room := { frames := 3, cells := 0, slots := 0, locals := 68 }
def cBus_writeByte (st : CS) (x1 : Int32) (x2 : Int32) (x3 : Int32) : CS := (if ((cBus_isInMemory x1) = 0) then (cBus_write st x1 x2 ((x3 &&& (255 : Int32)) * (16843009 : Int32))) else (sA st 0 (upd (gA st 0) x1.toNatClampNeg ((((gA st 0) x1.toNatClampNeg) &&& (((255 : Int32) <<< (((x2 &&& (3 : Int32)) <<< ((3 : Int32) &&& 31)) &&& 31)) ^^^ (-1 : Int32))) ||| ((x3 &&& (255 : Int32)) <<< (((x2 &&& (3 : Int32)) <<< ((3 : Int32) &&& 31)) &&& 31))))))
set_option maxHeartbeats 4000000 in
set_option maxRecDepth 100000 in
theorem k_cBus_writeByte {p : Program} {l : Launch} {e : Env} {s : State} {m : MethodId} {args : Array Value} {below : List Frame} {meth : Method} {c : Code} {A : Nat → Prop} (g : Gm) (C : cX p s m args meth c A cX0_writeByte none 6 RX0 wq_X0_writeByte (gD g) vwCl (cty g) (cz g)) (st : CS) (x1 : Int32) (x2 : Int32) (x3 : Int32) (H : Heap) (locs : List Loc) (ls : Array Slot) (hI : cI (gD g) vwCl (cw g) A s st H locs) (hl : lv_has ls 6 [(0, .ref (gad g 18)), (1, .int x1), (2, .int x2), (3, .int x3)]) (X : CS) (hF : X = cBus_writeByte st x1 x2 x3) : W p l e rm_cBus_writeByte s m args below meth c H locs 0 0 (MQ below (cQv (gD g) vwCl (cty g) (cw g) A X) args s 0 0 A) (F0 m 0 ls []) := by
  obtain ⟨hx, hb, hr, hml, hown, hts, hlocks, hK, hA, hZ, hzo⟩ := id C
  unfold cBus_writeByte at hF
  refine lv_iload_n hx hb dX0_writeByte_0 rfl (lv_at hl 3 rfl) ?_
  refine lv_sipush (v := (255 : Int32)) hx hb dX0_writeByte_1 (by decide) ?_
  refine lv_iand hx hb dX0_writeByte_4 ?_
  refine lv_istore (lv' := [(4, .int (x3 &&& (255 : Int32))), (0, .ref (gad g 18)), (1, .int x1), (2, .int x2), (3, .int x3)]) hx hb dX0_writeByte_5 hl (by decide) rfl (fun ls hl => ?_)
  refine lv_iload_n hx hb dX0_writeByte_7 rfl (lv_at hl 2 rfl) ?_
  refine cx_Si (As := [.int x1]) (rest := []) C (c_cBus_isInMemory l g st x1) (va_cwS 1 hts (gd_S _ mw351 mw352 mw42 mw353) rfl rfl rfl yd_yX0_isInMemory ⟨Nat.le_of_ble_eq_true rfl, Nat.le_of_ble_eq_true rfl⟩) hI rfl hl.1 rfl (Nat.le_of_ble_eq_true rfl) dX0_writeByte_8 (fun H locs hI => ?_)
  refine lv_if_eq (tgt := 51) hx hb dX0_writeByte_11 (by decide) (fun c_11 => ?_) (fun c_11 => ?_)
  · have hF := hF.trans (if_pos c_11)
    refine lv_aload_n hx hb dX0_writeByte_51 rfl (lv_at hl 1 rfl) ?_
    refine lv_iload_n hx hb dX0_writeByte_52 rfl (lv_at hl 2 rfl) ?_
    refine lv_iload_n hx hb dX0_writeByte_53 rfl (lv_at hl 3 rfl) ?_
    refine lv_iload hx hb dX0_writeByte_54 (lv_at hl 0 rfl) ?_
    refine lv_ldc (v := (16843009 : Int32)) hx hb hown (hts _ (List.mem_cons_of_mem _ mw587)) dX0_writeByte_56 ?_
    refine lv_imul hx hb dX0_writeByte_58 ?_
    refine cx_Vv (As := [.int x1, .int x2, .int ((x3 &&& (255 : Int32)) * (16843009 : Int32))]) (rest := []) C (c_cBus_write l g st x1 x2 ((x3 &&& (255 : Int32)) * (16843009 : Int32))) (cwV 3 hts (gd_V _ mw588 mw589 mw590 mw42 mw591) rfl rfl rfl yd_yX0_write ⟨Nat.le_of_ble_eq_true rfl, Nat.le_of_ble_eq_true rfl⟩) (va_recv hK hI.1 (ci := 0) (q0 := 18) rfl rfl) hI rfl hl.1 rfl (Nat.le_of_ble_eq_true rfl) dX0_writeByte_59 (fun H locs hI => ?_)
    exact cx_vret C hI hF dX0_writeByte_62
  · have hF := hF.trans (if_neg c_11)
    refine lv_iload_n hx hb dX0_writeByte_14 rfl (lv_at hl 3 rfl) ?_
    refine lv_iconst (v := (3 : Int32)) hx hb dX0_writeByte_15 (by decide) ?_
    refine lv_iand hx hb dX0_writeByte_16 ?_
    refine lv_iconst (v := (3 : Int32)) hx hb dX0_writeByte_17 (by decide) ?_
    refine lv_ishl hx hb dX0_writeByte_18 ?_
    refine lv_istore (lv' := [(5, .int ((x2 &&& (3 : Int32)) <<< ((3 : Int32) &&& 31))), (4, .int (x3 &&& (255 : Int32))), (0, .ref (gad g 18)), (1, .int x1), (2, .int x2), (3, .int x3)]) hx hb dX0_writeByte_19 hl (by decide) rfl (fun ls hl => ?_)
    refine lv_aload_n hx hb dX0_writeByte_21 rfl (lv_at hl 2 rfl) ?_
    refine va_get (D := gD g) (ci := 0) (C := RX0) (T := TX0) (N := 5) (v := .ref (gad g 1)) hx hb hts (fun w h => List.mem_cons_of_mem _ (isX00 w h)) hown hK hI.1 18 rfl rfl 0 (by decide) (hts _ (List.mem_cons_of_mem _ mw101)) (fun _ h9 => h9) rfl dX0_writeByte_22 ?_
    refine lv_iload_n hx hb dX0_writeByte_25 rfl (lv_at hl 3 rfl) ?_
    refine lv_aload_n hx hb dX0_writeByte_26 rfl (lv_at hl 2 rfl) ?_
    refine va_get (D := gD g) (ci := 0) (C := RX0) (T := TX0) (N := 5) (v := .ref (gad g 1)) hx hb hts (fun w h => List.mem_cons_of_mem _ (isX00 w h)) hown hK hI.1 18 rfl rfl 0 (by decide) (hts _ (List.mem_cons_of_mem _ mw101)) (fun _ h9 => h9) rfl dX0_writeByte_27 ?_
    refine lv_iload_n hx hb dX0_writeByte_30 rfl (lv_at hl 3 rfl) ?_
    refine va_iald (f := (gA st 0)) hx hb hK hI.1 1 0 rfl rfl (vin_mem c_11) dX0_writeByte_31 ?_
    refine lv_sipush (v := (255 : Int32)) hx hb dX0_writeByte_32 (by decide) ?_
    refine lv_iload hx hb dX0_writeByte_35 (lv_at hl 0 rfl) ?_
    refine lv_ishl hx hb dX0_writeByte_37 ?_
    refine lv_iconst (v := (-1 : Int32)) hx hb dX0_writeByte_38 (by decide) ?_
    refine lv_ixor hx hb dX0_writeByte_39 ?_
    refine lv_iand hx hb dX0_writeByte_40 ?_
    refine lv_iload hx hb dX0_writeByte_41 (lv_at hl 1 rfl) ?_
    refine lv_iload hx hb dX0_writeByte_43 (lv_at hl 0 rfl) ?_
    refine lv_ishl hx hb dX0_writeByte_45 ?_
    refine lv_ior hx hb dX0_writeByte_46 ?_
    refine va_iast (f := (gA st 0)) hx hb hK hI.1 hI.2.1 hI.2.2 1 0 rfl rfl (vin_mem c_11) dX0_writeByte_47 (fun H locs hP hD hS => ?_)
    have hI : cI (gD g) vwCl (cw g) A s (sA st 0 (upd (gA st 0) x1.toNatClampNeg ((((gA st 0) x1.toNatClampNeg) &&& (((255 : Int32) <<< (((x2 &&& (3 : Int32)) <<< ((3 : Int32) &&& 31)) &&& 31)) ^^^ (-1 : Int32))) ||| ((x3 &&& (255 : Int32)) <<< (((x2 &&& (3 : Int32)) <<< ((3 : Int32) &&& 31)) &&& 31))))) H locs := ⟨hP, hD, hS⟩
    refine lv_goto (tgt := 62) hx hb dX0_writeByte_48 (by decide) ?_
    exact cx_vret C hI hF dX0_writeByte_62
set_option maxHeartbeats 4000000 in
set_option maxRecDepth 100000 in
theorem c_cBus_writeByte (l : Launch) (g : Gm) (st : CS) (x1 : Int32) (x2 : Int32) (x3 : Int32) : Mv l yX0_writeByte wq_X0_writeByte rm_cBus_writeByte (gD g) vwCl (cty g) (cw g) (cz g) [.ref (gad g 18), .int x1, .int x2, .int x3] st (cBus_writeByte st x1 x2 x3) := by
  intro sz
  refine Met.ofW (cc := cX0_writeByte) (maxL := 6) (ret := none) (by decide) rfl ?_
  intro p e s m args below meth c s₁ B hml hv
  obtain ⟨rfl, hsz, hP, hK, hD0, hZ⟩ := hv
  subst hsz
  have hl := lv_entry ([.ref (gad g 18), .int x1, .int x2, .int x3]) (n := 6) (Nat.le_of_ble_eq_true rfl)
  rw [lg_entry_eq]
  generalize (lg_sl ([.ref (gad g 18), .int x1, .int x2, .int x3]) ++ List.replicate (6 - (lg_sl ([.ref (gad g 18), .int x1, .int x2, .int x3])).length) Slot.unset).toArray = ls at hl ⊢
  exact k_cBus_writeByte g ⟨B.exec, B.bytes, B.returns, hml, findClass_of_methodNamed B.named, atoms_spec (ws := wq_X0_writeByte) B.pre, B.notSynchronized, hK, fun q h => Or.inr h, hZ, cz_ok g⟩ st x1 x2 x3 _ _ ls ⟨hP, hD0.self, va_S.rf⟩ hl _ rfl
