abbrev wq_X11_work : List Cond := .code yX11_work cX11_work 14 (some .int) :: wAll
theorem yd_yX11_work : yX11_work.cls = RX11 ∧ yX11_work.cls ≠ "java/lang/invoke/MethodHandle" ∧ yX11_work.cls ≠ "java/lang/invoke/VarHandle" ∧ (parseMethodDescriptor yX11_work.desc).map (fun d => d.parameters.length) = some 1 := by decide +kernel
abbrev rm_m_work : Room := { frames := 4, cells := 0, slots := 0, locals := 89 }
def m_work_b448 (st : CS) (y0 : Int32) : CS × Int32 := (st, (y0 + (3 : Int32)))
set_option maxHeartbeats 4000000 in
set_option maxRecDepth 100000 in
theorem k_m_work_b448 {p : Program} {l : Launch} {e : Env} {s : State} {m : MethodId} {args : Array Value} {below : List Frame} {meth : Method} {c : Code} {A : Nat → Prop} (g : Gm) (C : cX p s m args meth c A cX11_work (some .int) 14 RX11 wq_X11_work (gD g) vwCl (mty g) (mz g)) (st : CS) (y0 : Int32) (H : Heap) (locs : List Loc) (ls : Array Slot) (hI : cI (gD g) vwCl (mw g) A s st H locs) (hl : lv_has ls 14 [(0, .ref (gad g 0))]) (X : CS × Int32) (hF : X = m_work_b448 st y0) : W p l e rm_m_work s m args below meth c H locs 0 0 (MQ below (cQi (gD g) vwCl (mty g) (mw g) A X.1 X.2) args s 0 0 A) (F0 m 448 ls [.int y0]) := by
  obtain ⟨hx, hb, hr, hml, hown, hts, hlocks, hK, hA, hZ, hzo⟩ := id C
  unfold m_work_b448 at hF
  refine lv_iconst (v := (3 : Int32)) hx hb dX11_work_448 (by decide) ?_
  refine lv_goto (tgt := 453) hx hb dX11_work_449 (by decide) ?_
  refine lv_iadd hx hb dX11_work_453 ?_
  exact cx_iret C hI (congrArg Prod.fst hF) (congrArg Prod.snd hF) dX11_work_454
def m_work_b439 (st : CS) (x12 : Int32) (y0 : Int32) : CS × Int32 := (if (x12 = (m_mode st)) then (st, (y0 + (0 : Int32))) else (m_work_b448 st y0))
set_option maxHeartbeats 4000000 in
set_option maxRecDepth 100000 in
theorem k_m_work_b439 {p : Program} {l : Launch} {e : Env} {s : State} {m : MethodId} {args : Array Value} {below : List Frame} {meth : Method} {c : Code} {A : Nat → Prop} (g : Gm) (C : cX p s m args meth c A cX11_work (some .int) 14 RX11 wq_X11_work (gD g) vwCl (mty g) (mz g)) (st : CS) (x12 : Int32) (y0 : Int32) (H : Heap) (locs : List Loc) (ls : Array Slot) (hI : cI (gD g) vwCl (mw g) A s st H locs) (hl : lv_has ls 14 [(0, .ref (gad g 0)), (12, .int x12)]) (X : CS × Int32) (hF : X = m_work_b439 st x12 y0) : W p l e rm_m_work s m args below meth c H locs 0 0 (MQ below (cQi (gD g) vwCl (mty g) (mw g) A X.1 X.2) args s 0 0 A) (F0 m 439 ls [.int y0]) := by
  obtain ⟨hx, hb, hr, hml, hown, hts, hlocks, hK, hA, hZ, hzo⟩ := id C
  unfold m_work_b439 at hF
  refine lv_iload hx hb dX11_work_439 (lv_at hl 1 rfl) ?_
  refine lv_aload_n hx hb dX11_work_441 rfl (lv_at hl 0 rfl) ?_
  refine cx_Vi (As := []) (rest := [.int x12, .int y0]) C (c_m_mode l g st ) (cwV 0 hts (gd_V _ mw796 mw797 mw798 mw3 mw799) rfl rfl rfl yd_yX11_mode ⟨Nat.le_of_ble_eq_true rfl, Nat.le_of_ble_eq_true rfl⟩) (va_recv hK hI.1 (ci := 11) (q0 := 0) rfl rfl) hI rfl hl.1 rfl (Nat.le_of_ble_eq_true rfl) dX11_work_442 (fun H locs hI => ?_)
  refine lv_icmp_eq (tgt := 452) hx hb dX11_work_445 (by decide) (fun c_445 => ?_) (fun c_445 => ?_)
  · have hF := hF.trans (if_pos c_445)
    refine lv_iconst (v := (0 : Int32)) hx hb dX11_work_452 (by decide) ?_
    refine lv_iadd hx hb dX11_work_453 ?_
    exact cx_iret C hI (congrArg Prod.fst hF) (congrArg Prod.snd hF) dX11_work_454
  · have hF := hF.trans (if_neg c_445)
    exact k_m_work_b448 g C st y0 H locs ls hI (lv_sub hl [0] rfl) X hF
def m_work_b427 (st : CS) (x4 : Int32) (x11 : Int32) (x12 : Int32) (y0 : Int32) : CS × Int32 := (if (x4 = 0) then (if (x11 = (15 : Int32)) then (m_work_b448 st y0) else (m_work_b439 st x12 y0)) else (m_work_b439 st x12 y0))
set_option maxHeartbeats 4000000 in
set_option maxRecDepth 100000 in
theorem k_m_work_b427 {p : Program} {l : Launch} {e : Env} {s : State} {m : MethodId} {args : Array Value} {below : List Frame} {meth : Method} {c : Code} {A : Nat → Prop} (g : Gm) (C : cX p s m args meth c A cX11_work (some .int) 14 RX11 wq_X11_work (gD g) vwCl (mty g) (mz g)) (st : CS) (x4 : Int32) (x11 : Int32) (x12 : Int32) (y0 : Int32) (H : Heap) (locs : List Loc) (ls : Array Slot) (hI : cI (gD g) vwCl (mw g) A s st H locs) (hl : lv_has ls 14 [(0, .ref (gad g 0)), (4, .int x4), (11, .int x11), (12, .int x12)]) (X : CS × Int32) (hF : X = m_work_b427 st x4 x11 x12 y0) : W p l e rm_m_work s m args below meth c H locs 0 0 (MQ below (cQi (gD g) vwCl (mty g) (mw g) A X.1 X.2) args s 0 0 A) (F0 m 427 ls [.int y0]) := by
  obtain ⟨hx, hb, hr, hml, hown, hts, hlocks, hK, hA, hZ, hzo⟩ := id C
  unfold m_work_b427 at hF
  refine lv_iload hx hb dX11_work_427 (lv_at hl 1 rfl) ?_
  refine lv_if_ne (tgt := 439) hx hb dX11_work_429 (by decide) (fun c_429 => ?_) (fun c_429 => ?_)
  · have hF := hF.trans (if_neg c_429)
    exact k_m_work_b439 g C st x12 y0 H locs ls hI (lv_sub hl [0, 3] rfl) X hF
  · have hF := hF.trans (if_pos c_429)
    refine lv_iload hx hb dX11_work_432 (lv_at hl 2 rfl) ?_
    refine lv_bipush (v := (15 : Int32)) hx hb dX11_work_434 (by decide) ?_
    refine lv_icmp_eq (tgt := 448) hx hb dX11_work_436 (by decide) (fun c_436 => ?_) (fun c_436 => ?_)
    · have hF := hF.trans (if_pos c_436)
      exact k_m_work_b448 g C st y0 H locs ls hI (lv_sub hl [0] rfl) X hF
    · have hF := hF.trans (if_neg c_436)
      exact k_m_work_b439 g C st x12 y0 H locs ls hI (lv_sub hl [0, 3] rfl) X hF
def m_work_b417 (st : CS) (x4 : Int32) (x6 : Int32) (x11 : Int32) (x12 : Int32) : CS × Int32 := (if (x6 = 0) then (m_work_b427 st x4 x11 x12 (1 : Int32)) else (m_work_b427 st x4 x11 x12 (2 : Int32)))
set_option maxHeartbeats 4000000 in
set_option maxRecDepth 100000 in
theorem k_m_work_b417 {p : Program} {l : Launch} {e : Env} {s : State} {m : MethodId} {args : Array Value} {below : List Frame} {meth : Method} {c : Code} {A : Nat → Prop} (g : Gm) (C : cX p s m args meth c A cX11_work (some .int) 14 RX11 wq_X11_work (gD g) vwCl (mty g) (mz g)) (st : CS) (x4 : Int32) (x6 : Int32) (x11 : Int32) (x12 : Int32) (H : Heap) (locs : List Loc) (ls : Array Slot) (hI : cI (gD g) vwCl (mw g) A s st H locs) (hl : lv_has ls 14 [(0, .ref (gad g 0)), (4, .int x4), (6, .int x6), (11, .int x11), (12, .int x12)]) (X : CS × Int32) (hF : X = m_work_b417 st x4 x6 x11 x12) : W p l e rm_m_work s m args below meth c H locs 0 0 (MQ below (cQi (gD g) vwCl (mty g) (mw g) A X.1 X.2) args s 0 0 A) (F0 m 417 ls []) := by
  obtain ⟨hx, hb, hr, hml, hown, hts, hlocks, hK, hA, hZ, hzo⟩ := id C
  unfold m_work_b417 at hF
  refine lv_iload hx hb dX11_work_417 (lv_at hl 2 rfl) ?_
  refine lv_if_eq (tgt := 426) hx hb dX11_work_419 (by decide) (fun c_419 => ?_) (fun c_419 => ?_)
  · have hF := hF.trans (if_pos c_419)
    refine lv_iconst (v := (1 : Int32)) hx hb dX11_work_426 (by decide) ?_
    exact k_m_work_b427 g C st x4 x11 x12 (1 : Int32) H locs ls hI (lv_sub hl [0, 1, 3, 4] rfl) X hF
  · have hF := hF.trans (if_neg c_419)
    refine lv_iconst (v := (2 : Int32)) hx hb dX11_work_422 (by decide) ?_
    refine lv_goto (tgt := 427) hx hb dX11_work_423 (by decide) ?_
    exact k_m_work_b427 g C st x4 x11 x12 (2 : Int32) H locs ls hI (lv_sub hl [0, 1, 3, 4] rfl) X hF
def m_work_b395 (st : CS) (x4 : Int32) (x6 : Int32) (x11 : Int32) (x12 : Int32) (x13 : Int32) : CS × Int32 := (if (x4 = 0) then (if ((15 : Int32) ≤ x11) then (m_work_b417 st x4 x6 x11 x12) else (m_work_b417 (m_give st x12 x11 x13) x4 x6 x11 x12)) else (m_work_b417 st x4 x6 x11 x12))
def o_m_work_b395 (st : CS) (x4 : Int32) (x6 : Int32) (x11 : Int32) (x12 : Int32) (x13 : Int32) : Prop := (((x4 = 0) → ((((15 : Int32) ≤ x11) → True) ∧ (¬ ((15 : Int32) ≤ x11) → ((o_m_give st x12 x11 x13) ∧ True)))) ∧ (¬ (x4 = 0) → True))
set_option maxHeartbeats 4000000 in
set_option maxRecDepth 100000 in
theorem k_m_work_b395 {p : Program} {l : Launch} {e : Env} {s : State} {m : MethodId} {args : Array Value} {below : List Frame} {meth : Method} {c : Code} {A : Nat → Prop} (g : Gm) (C : cX p s m args meth c A cX11_work (some .int) 14 RX11 wq_X11_work (gD g) vwCl (mty g) (mz g)) (st : CS) (x4 : Int32) (x6 : Int32) (x11 : Int32) (x12 : Int32) (x13 : Int32) (H : Heap) (locs : List Loc) (ls : Array Slot) (hI : cI (gD g) vwCl (mw g) A s st H locs) (hl : lv_has ls 14 [(0, .ref (gad g 0)), (4, .int x4), (6, .int x6), (11, .int x11), (12, .int x12), (13, .int x13)]) (hO : o_m_work_b395 st x4 x6 x11 x12 x13) (X : CS × Int32) (hF : X = m_work_b395 st x4 x6 x11 x12 x13) : W p l e rm_m_work s m args below meth c H locs 0 0 (MQ below (cQi (gD g) vwCl (mty g) (mw g) A X.1 X.2) args s 0 0 A) (F0 m 395 ls []) := by
  obtain ⟨hx, hb, hr, hml, hown, hts, hlocks, hK, hA, hZ, hzo⟩ := id C
  unfold m_work_b395 at hF
  unfold o_m_work_b395 at hO
  refine lv_iload hx hb dX11_work_395 (lv_at hl 1 rfl) ?_
  refine lv_if_ne (tgt := 417) hx hb dX11_work_397 (by decide) (fun c_397 => ?_) (fun c_397 => ?_)
  · have hF := hF.trans (if_neg c_397)
    have hO := hO.2 c_397
    exact k_m_work_b417 g C st x4 x6 x11 x12 H locs ls hI (lv_sub hl [0, 1, 2, 3, 4] rfl) X hF
  · have hF := hF.trans (if_pos c_397)
    have hO := hO.1 c_397
    refine lv_iload hx hb dX11_work_400 (lv_at hl 3 rfl) ?_
    refine lv_bipush (v := (15 : Int32)) hx hb dX11_work_402 (by decide) ?_
    refine lv_icmp_ge (tgt := 417) hx hb dX11_work_404 (by decide) (fun c_404 => ?_) (fun c_404 => ?_)
    · have hF := hF.trans (if_pos c_404)
      have hO := hO.1 c_404
      exact k_m_work_b417 g C st x4 x6 x11 x12 H locs ls hI (lv_sub hl [0, 1, 2, 3, 4] rfl) X hF
    · have hF := hF.trans (if_neg c_404)
      have hO := hO.2 c_404
      refine lv_aload_n hx hb dX11_work_407 rfl (lv_at hl 0 rfl) ?_
      refine lv_iload hx hb dX11_work_408 (lv_at hl 4 rfl) ?_
      refine lv_iload hx hb dX11_work_410 (lv_at hl 3 rfl) ?_
      refine lv_iload hx hb dX11_work_412 (lv_at hl 5 rfl) ?_
      have hq_414_0 := hO.1
      have hO := hO.2
      refine cx_Vv (As := [.int x12, .int x11, .int x13]) (rest := []) C (c_m_give l g st x12 x11 x13 hq_414_0) (cwV 3 hts (gd_V _ mw777 mw778 mw779 mw3 mw780) rfl rfl rfl yd_yX11_give ⟨Nat.le_of_ble_eq_true rfl, Nat.le_of_ble_eq_true rfl⟩) (va_recv hK hI.1 (ci := 11) (q0 := 0) rfl rfl) hI rfl hl.1 rfl (Nat.le_of_ble_eq_true rfl) dX11_work_414 (fun H locs hI => ?_)
      exact k_m_work_b417 g C (m_give st x12 x11 x13) x4 x6 x11 x12 H locs ls hI (lv_sub hl [0, 1, 2, 3, 4] rfl) X hF
def m_work_b374 (st : CS) (x4 : Int32) (x6 : Int32) (x11 : Int32) (x12 : Int32) (x13 : Int32) : CS × Int32 := (if (x4 = 0) then (if (x11 = (15 : Int32)) then (m_work_b395 (sI st 3 (x13 &&& (67108860 : Int32))) x4 x6 x11 x12 x13) else (m_work_b395 st x4 x6 x11 x12 x13)) else (m_work_b395 st x4 x6 x11 x12 x13))
def o_m_work_b374 (st : CS) (x4 : Int32) (x6 : Int32) (x11 : Int32) (x12 : Int32) (x13 : Int32) : Prop := (((x4 = 0) → (((x11 = (15 : Int32)) → (o_m_work_b395 (sI st 3 (x13 &&& (67108860 : Int32))) x4 x6 x11 x12 x13)) ∧ (¬ (x11 = (15 : Int32)) → (o_m_work_b395 st x4 x6 x11 x12 x13)))) ∧ (¬ (x4 = 0) → (o_m_work_b395 st x4 x6 x11 x12 x13)))
set_option maxHeartbeats 4000000 in
set_option maxRecDepth 100000 in
theorem k_m_work_b374 {p : Program} {l : Launch} {e : Env} {s : State} {m : MethodId} {args : Array Value} {below : List Frame} {meth : Method} {c : Code} {A : Nat → Prop} (g : Gm) (C : cX p s m args meth c A cX11_work (some .int) 14 RX11 wq_X11_work (gD g) vwCl (mty g) (mz g)) (st : CS) (x4 : Int32) (x6 : Int32) (x11 : Int32) (x12 : Int32) (x13 : Int32) (H : Heap) (locs : List Loc) (ls : Array Slot) (hI : cI (gD g) vwCl (mw g) A s st H locs) (hl : lv_has ls 14 [(0, .ref (gad g 0)), (4, .int x4), (6, .int x6), (11, .int x11), (12, .int x12), (13, .int x13)]) (hO : o_m_work_b374 st x4 x6 x11 x12 x13) (X : CS × Int32) (hF : X = m_work_b374 st x4 x6 x11 x12 x13) : W p l e rm_m_work s m args below meth c H locs 0 0 (MQ below (cQi (gD g) vwCl (mty g) (mw g) A X.1 X.2) args s 0 0 A) (F0 m 374 ls []) := by
  obtain ⟨hx, hb, hr, hml, hown, hts, hlocks, hK, hA, hZ, hzo⟩ := id C
  unfold m_work_b374 at hF
  unfold o_m_work_b374 at hO
  refine lv_iload hx hb dX11_work_374 (lv_at hl 1 rfl) ?_
  refine lv_if_ne (tgt := 395) hx hb dX11_work_376 (by decide) (fun c_376 => ?_) (fun c_376 => ?_)
  · have hF := hF.trans (if_neg c_376)
    have hO := hO.2 c_376
    exact k_m_work_b395 g C st x4 x6 x11 x12 x13 H locs ls hI (lv_sub hl [0, 1, 2, 3, 4, 5] rfl) hO X hF
  · have hF := hF.trans (if_pos c_376)
    have hO := hO.1 c_376
    refine lv_iload hx hb dX11_work_379 (lv_at hl 3 rfl) ?_
    refine lv_bipush (v := (15 : Int32)) hx hb dX11_work_381 (by decide) ?_
    refine lv_icmp_ne (tgt := 395) hx hb dX11_work_383 (by decide) (fun c_383 => ?_) (fun c_383 => ?_)
    · have hF := hF.trans (if_neg c_383)
      have hO := hO.2 c_383
      exact k_m_work_b395 g C st x4 x6 x11 x12 x13 H locs ls hI (lv_sub hl [0, 1, 2, 3, 4, 5] rfl) hO X hF
    · have hF := hF.trans (if_pos c_383)
      have hO := hO.1 c_383
      refine lv_aload_n hx hb dX11_work_386 rfl (lv_at hl 0 rfl) ?_
      refine lv_iload hx hb dX11_work_387 (lv_at hl 5 rfl) ?_
      refine lv_ldc (v := (67108860 : Int32)) hx hb hown (hts _ (List.mem_cons_of_mem _ mw748)) dX11_work_389 ?_
      refine lv_iand hx hb dX11_work_391 ?_
      refine va_put (D := gD g) (ci := 11) (C := RX11) (T := TX11) (N := 50) (v := .int (x13 &&& (67108860 : Int32))) (ty := .int) hx hb hts (fun w h => List.mem_cons_of_mem _ (isX110 w h)) tyX11 tyX11_ok nmX11 hown hK hI.1 hI.2.1 hI.2.2 0 rfl rfl 7 (by decide) (hts _ (List.mem_cons_of_mem _ mw750)) (fun _ h9 => h9) rfl (by decide +kernel) rfl rfl (Nat.le_of_ble_eq_true rfl) dX11_work_392 (fun H locs hP hD hS => ?_)
      have hI : cI (gD g) vwCl (mw g) A s (sI st 3 (x13 &&& (67108860 : Int32))) H locs := ⟨hP, hD, hS⟩
      exact k_m_work_b395 g C (sI st 3 (x13 &&& (67108860 : Int32))) x4 x6 x11 x12 x13 H locs ls hI (lv_sub hl [0, 1, 2, 3, 4, 5] rfl) hO X hF
def m_work_b355 (st : CS) (x3 : Int32) (x4 : Int32) (x6 : Int32) (x11 : Int32) (x12 : Int32) (y0 : Int32) : CS × Int32 := (if (x3 = 0) then (m_work_b374 st x4 x6 x11 x12 y0) else (if (x11 = (15 : Int32)) then (m_work_b374 (m_setSigns st y0) x4 x6 x11 x12 y0) else (m_work_b374 st x4 x6 x11 x12 y0)))
def o_m_work_b355 (st : CS) (x3 : Int32) (x4 : Int32) (x6 : Int32) (x11 : Int32) (x12 : Int32) (y0 : Int32) : Prop := (((x3 = 0) → (o_m_work_b374 st x4 x6 x11 x12 y0)) ∧ (¬ (x3 = 0) → (((x11 = (15 : Int32)) → (o_m_work_b374 (m_setSigns st y0) x4 x6 x11 x12 y0)) ∧ (¬ (x11 = (15 : Int32)) → (o_m_work_b374 st x4 x6 x11 x12 y0)))))
set_option maxHeartbeats 4000000 in
set_option maxRecDepth 100000 in
theorem k_m_work_b355 {p : Program} {l : Launch} {e : Env} {s : State} {m : MethodId} {args : Array Value} {below : List Frame} {meth : Method} {c : Code} {A : Nat → Prop} (g : Gm) (C : cX p s m args meth c A cX11_work (some .int) 14 RX11 wq_X11_work (gD g) vwCl (mty g) (mz g)) (st : CS) (x3 : Int32) (x4 : Int32) (x6 : Int32) (x11 : Int32) (x12 : Int32) (y0 : Int32) (H : Heap) (locs : List Loc) (ls : Array Slot) (hI : cI (gD g) vwCl (mw g) A s st H locs) (hl : lv_has ls 14 [(0, .ref (gad g 0)), (3, .int x3), (4, .int x4), (6, .int x6), (11, .int x11), (12, .int x12)]) (hO : o_m_work_b355 st x3 x4 x6 x11 x12 y0) (X : CS × Int32) (hF : X = m_work_b355 st x3 x4 x6 x11 x12 y0) : W p l e rm_m_work s m args below meth c H locs 0 0 (MQ below (cQi (gD g) vwCl (mty g) (mw g) A X.1 X.2) args s 0 0 A) (F0 m 355 ls [.int y0]) := by
  obtain ⟨hx, hb, hr, hml, hown, hts, hlocks, hK, hA, hZ, hzo⟩ := id C
  unfold m_work_b355 at hF
  unfold o_m_work_b355 at hO
  refine lv_istore (lv' := [(13, .int y0), (0, .ref (gad g 0)), (3, .int x3), (4, .int x4), (6, .int x6), (11, .int x11), (12, .int x12)]) hx hb dX11_work_355 hl (by decide) rfl (fun ls hl => ?_)
  refine lv_iload_n hx hb dX11_work_357 rfl (lv_at hl 2 rfl) ?_
  refine lv_if_eq (tgt := 374) hx hb dX11_work_358 (by decide) (fun c_358 => ?_) (fun c_358 => ?_)
  · have hF := hF.trans (if_pos c_358)
    have hO := hO.1 c_358
    exact k_m_work_b374 g C st x4 x6 x11 x12 y0 H locs ls hI (lv_sub hl [1, 3, 4, 5, 6, 0] rfl) hO X hF
  · have hF := hF.trans (if_neg c_358)
    have hO := hO.2 c_358
    refine lv_iload hx hb dX11_work_361 (lv_at hl 5 rfl) ?_
    refine lv_bipush (v := (15 : Int32)) hx hb dX11_work_363 (by decide) ?_
    refine lv_icmp_ne (tgt := 374) hx hb dX11_work_365 (by decide) (fun c_365 => ?_) (fun c_365 => ?_)
    · have hF := hF.trans (if_neg c_365)
      have hO := hO.2 c_365
      exact k_m_work_b374 g C st x4 x6 x11 x12 y0 H locs ls hI (lv_sub hl [1, 3, 4, 5, 6, 0] rfl) hO X hF
    · have hF := hF.trans (if_pos c_365)
      have hO := hO.1 c_365
      refine lv_aload_n hx hb dX11_work_368 rfl (lv_at hl 1 rfl) ?_
      refine lv_iload hx hb dX11_work_369 (lv_at hl 0 rfl) ?_
      refine cx_Vv (As := [.int y0]) (rest := []) C (c_m_setSigns l g st y0) (cwV 1 hts (gd_V _ mw867 mw868 mw869 mw3 mw870) rfl rfl rfl yd_yX11_setSigns ⟨Nat.le_of_ble_eq_true rfl, Nat.le_of_ble_eq_true rfl⟩) (va_recv hK hI.1 (ci := 11) (q0 := 0) rfl rfl) hI rfl hl.1 rfl (Nat.le_of_ble_eq_true rfl) dX11_work_371 (fun H locs hI => ?_)
      exact k_m_work_b374 g C (m_setSigns st y0) x4 x6 x11 x12 y0 H locs ls hI (lv_sub hl [1, 3, 4, 5, 6, 0] rfl) hO X hF
def m_work_b352 (st : CS) (x3 : Int32) (x4 : Int32) (x6 : Int32) (x11 : Int32) (x12 : Int32) (y3 : Int32) (y2 : Int32) (y1 : Int32) (y0 : Int32) : CS × Int32 := (m_work_b355 (m_result st y3 y2 y1 y0).1 x3 x4 x6 x11 x12 (m_result st y3 y2 y1 y0).2)
def o_m_work_b352 (st : CS) (x3 : Int32) (x4 : Int32) (x6 : Int32) (x11 : Int32) (x12 : Int32) (y3 : Int32) (y2 : Int32) (y1 : Int32) (y0 : Int32) : Prop := (o_m_work_b355 (m_result st y3 y2 y1 y0).1 x3 x4 x6 x11 x12 (m_result st y3 y2 y1 y0).2)
set_option maxHeartbeats 4000000 in
set_option maxRecDepth 100000 in
theorem k_m_work_b352 {p : Program} {l : Launch} {e : Env} {s : State} {m : MethodId} {args : Array Value} {below : List Frame} {meth : Method} {c : Code} {A : Nat → Prop} (g : Gm) (C : cX p s m args meth c A cX11_work (some .int) 14 RX11 wq_X11_work (gD g) vwCl (mty g) (mz g)) (st : CS) (x3 : Int32) (x4 : Int32) (x6 : Int32) (x11 : Int32) (x12 : Int32) (y3 : Int32) (y2 : Int32) (y1 : Int32) (y0 : Int32) (H : Heap) (locs : List Loc) (ls : Array Slot) (hI : cI (gD g) vwCl (mw g) A s st H locs) (hl : lv_has ls 14 [(0, .ref (gad g 0)), (3, .int x3), (4, .int x4), (6, .int x6), (11, .int x11), (12, .int x12)]) (hO : o_m_work_b352 st x3 x4 x6 x11 x12 y3 y2 y1 y0) (X : CS × Int32) (hF : X = m_work_b352 st x3 x4 x6 x11 x12 y3 y2 y1 y0) : W p l e rm_m_work s m args below meth c H locs 0 0 (MQ below (cQi (gD g) vwCl (mty g) (mw g) A X.1 X.2) args s 0 0 A) (F0 m 352 ls [.int y0, .int y1, .int y2, .int y3, .ref (gad g 0)]) := by
  obtain ⟨hx, hb, hr, hml, hown, hts, hlocks, hK, hA, hZ, hzo⟩ := id C
  unfold m_work_b352 at hF
  unfold o_m_work_b352 at hO
  refine cx_Vi (As := [.int y3, .int y2, .int y1, .int y0]) (rest := []) C (c_m_result l g st y3 y2 y1 y0) (cwV 4 hts (gd_V _ mw858 mw859 mw860 mw3 mw861) rfl rfl rfl yd_yX11_result ⟨Nat.le_of_ble_eq_true rfl, Nat.le_of_ble_eq_true rfl⟩) (va_recv hK hI.1 (ci := 11) (q0 := 0) rfl rfl) hI rfl hl.1 rfl (Nat.le_of_ble_eq_true rfl) dX11_work_352 (fun H locs hI => ?_)
  exact k_m_work_b355 g C (m_result st y3 y2 y1 y0).1 x3 x4 x6 x11 x12 (m_result st y3 y2 y1 y0).2 H locs ls hI (lv_sub hl [0, 1, 2, 3, 4, 5] rfl) hO X hF
def m_work_b351 (st : CS) (x3 : Int32) (x4 : Int32) (x6 : Int32) (x11 : Int32) (x12 : Int32) (y2 : Int32) (y1 : Int32) (y0 : Int32) : CS × Int32 := (m_work_b352 st x3 x4 x6 x11 x12 y2 y1 y0 (0 : Int32))
def o_m_work_b351 (st : CS) (x3 : Int32) (x4 : Int32) (x6 : Int32) (x11 : Int32) (x12 : Int32) (y2 : Int32) (y1 : Int32) (y0 : Int32) : Prop := (o_m_work_b352 st x3 x4 x6 x11 x12 y2 y1 y0 (0 : Int32))
set_option maxHeartbeats 4000000 in
set_option maxRecDepth 100000 in
theorem k_m_work_b351 {p : Program} {l : Launch} {e : Env} {s : State} {m : MethodId} {args : Array Value} {below : List Frame} {meth : Method} {c : Code} {A : Nat → Prop} (g : Gm) (C : cX p s m args meth c A cX11_work (some .int) 14 RX11 wq_X11_work (gD g) vwCl (mty g) (mz g)) (st : CS) (x3 : Int32) (x4 : Int32) (x6 : Int32) (x11 : Int32) (x12 : Int32) (y2 : Int32) (y1 : Int32) (y0 : Int32) (H : Heap) (locs : List Loc) (ls : Array Slot) (hI : cI (gD g) vwCl (mw g) A s st H locs) (hl : lv_has ls 14 [(0, .ref (gad g 0)), (3, .int x3), (4, .int x4), (6, .int x6), (11, .int x11), (12, .int x12)]) (hO : o_m_work_b351 st x3 x4 x6 x11 x12 y2 y1 y0) (X : CS × Int32) (hF : X = m_work_b351 st x3 x4 x6 x11 x12 y2 y1 y0) : W p l e rm_m_work s m args below meth c H locs 0 0 (MQ below (cQi (gD g) vwCl (mty g) (mw g) A X.1 X.2) args s 0 0 A) (F0 m 351 ls [.int y0, .int y1, .int y2, .ref (gad g 0)]) := by
  obtain ⟨hx, hb, hr, hml, hown, hts, hlocks, hK, hA, hZ, hzo⟩ := id C
  unfold m_work_b351 at hF
  unfold o_m_work_b351 at hO
  refine lv_iconst (v := (0 : Int32)) hx hb dX11_work_351 (by decide) ?_
  exact k_m_work_b352 g C st x3 x4 x6 x11 x12 y2 y1 y0 (0 : Int32) H locs ls hI (lv_sub hl [0, 1, 2, 3, 4, 5] rfl) hO X hF
def m_work_b315 (st : CS) (x1 : Int32) (x2 : Int32) (x3 : Int32) (x4 : Int32) (x6 : Int32) (x9 : Int32) (x10 : Int32) : CS × Int32 := (if (x3 = 0) then (m_work_b351 st x3 x4 x6 ((x1 >>> ((12 : Int32) &&& 31)) &&& (15 : Int32)) (m_mode st) x2 x9 x10) else (if ((15 : Int32) ≤ ((x1 >>> ((12 : Int32) &&& 31)) &&& (15 : Int32))) then (m_work_b351 st x3 x4 x6 ((x1 >>> ((12 : Int32) &&& 31)) &&& (15 : Int32)) (m_mode st) x2 x9 x10) else (m_work_b352 st x3 x4 x6 ((x1 >>> ((12 : Int32) &&& 31)) &&& (15 : Int32)) (m_mode st) x2 x9 x10 (1 : Int32))))
def o_m_work_b315 (st : CS) (x1 : Int32) (x2 : Int32) (x3 : Int32) (x4 : Int32) (x6 : Int32) (x9 : Int32) (x10 : Int32) : Prop := (((x3 = 0) → (o_m_work_b351 st x3 x4 x6 ((x1 >>> ((12 : Int32) &&& 31)) &&& (15 : Int32)) (m_mode st) x2 x9 x10)) ∧ (¬ (x3 = 0) → ((((15 : Int32) ≤ ((x1 >>> ((12 : Int32) &&& 31)) &&& (15 : Int32))) → (o_m_work_b351 st x3 x4 x6 ((x1 >>> ((12 : Int32) &&& 31)) &&& (15 : Int32)) (m_mode st) x2 x9 x10)) ∧ (¬ ((15 : Int32) ≤ ((x1 >>> ((12 : Int32) &&& 31)) &&& (15 : Int32))) → (o_m_work_b352 st x3 x4 x6 ((x1 >>> ((12 : Int32) &&& 31)) &&& (15 : Int32)) (m_mode st) x2 x9 x10 (1 : Int32))))))
set_option maxHeartbeats 4000000 in
set_option maxRecDepth 100000 in
theorem k_m_work_b315 {p : Program} {l : Launch} {e : Env} {s : State} {m : MethodId} {args : Array Value} {below : List Frame} {meth : Method} {c : Code} {A : Nat → Prop} (g : Gm) (C : cX p s m args meth c A cX11_work (some .int) 14 RX11 wq_X11_work (gD g) vwCl (mty g) (mz g)) (st : CS) (x1 : Int32) (x2 : Int32) (x3 : Int32) (x4 : Int32) (x6 : Int32) (x9 : Int32) (x10 : Int32) (H : Heap) (locs : List Loc) (ls : Array Slot) (hI : cI (gD g) vwCl (mw g) A s st H locs) (hl : lv_has ls 14 [(0, .ref (gad g 0)), (1, .int x1), (2, .int x2), (3, .int x3), (4, .int x4), (6, .int x6), (9, .int x9), (10, .int x10)]) (hO : o_m_work_b315 st x1 x2 x3 x4 x6 x9 x10) (X : CS × Int32) (hF : X = m_work_b315 st x1 x2 x3 x4 x6 x9 x10) : W p l e rm_m_work s m args below meth c H locs 0 0 (MQ below (cQi (gD g) vwCl (mty g) (mw g) A X.1 X.2) args s 0 0 A) (F0 m 315 ls []) := by
  obtain ⟨hx, hb, hr, hml, hown, hts, hlocks, hK, hA, hZ, hzo⟩ := id C
  unfold m_work_b315 at hF
  unfold o_m_work_b315 at hO
  refine lv_iload_n hx hb dX11_work_315 rfl (lv_at hl 1 rfl) ?_
  refine lv_bipush (v := (12 : Int32)) hx hb dX11_work_316 (by decide) ?_
  refine lv_ishr hx hb dX11_work_318 ?_
  refine lv_bipush (v := (15 : Int32)) hx hb dX11_work_319 (by decide) ?_
  refine lv_iand hx hb dX11_work_321 ?_
  refine lv_istore (lv' := [(11, .int ((x1 >>> ((12 : Int32) &&& 31)) &&& (15 : Int32))), (0, .ref (gad g 0)), (1, .int x1), (2, .int x2), (3, .int x3), (4, .int x4), (6, .int x6), (9, .int x9), (10, .int x10)]) hx hb dX11_work_322 hl (by decide) rfl (fun ls hl => ?_)
  refine lv_aload_n hx hb dX11_work_324 rfl (lv_at hl 1 rfl) ?_
  refine cx_Vi (As := []) (rest := []) C (c_m_mode l g st ) (cwV 0 hts (gd_V _ mw796 mw797 mw798 mw3 mw799) rfl rfl rfl yd_yX11_mode ⟨Nat.le_of_ble_eq_true rfl, Nat.le_of_ble_eq_true rfl⟩) (va_recv hK hI.1 (ci := 11) (q0 := 0) rfl rfl) hI rfl hl.1 rfl (Nat.le_of_ble_eq_true rfl) dX11_work_325 (fun H locs hI => ?_)
  refine lv_istore (lv' := [(12, .int (m_mode st)), (11, .int ((x1 >>> ((12 : Int32) &&& 31)) &&& (15 : Int32))), (0, .ref (gad g 0)), (1, .int x1), (2, .int x2), (3, .int x3), (4, .int x4), (6, .int x6), (9, .int x9), (10, .int x10)]) hx hb dX11_work_328 hl (by decide) rfl (fun ls hl => ?_)
  refine lv_aload_n hx hb dX11_work_330 rfl (lv_at hl 2 rfl) ?_
  refine lv_iload_n hx hb dX11_work_331 rfl (lv_at hl 4 rfl) ?_
  refine lv_iload hx hb dX11_work_332 (lv_at hl 8 rfl) ?_
  refine lv_iload hx hb dX11_work_334 (lv_at hl 9 rfl) ?_
  refine lv_iload_n hx hb dX11_work_336 rfl (lv_at hl 5 rfl) ?_
  refine lv_if_eq (tgt := 351) hx hb dX11_work_337 (by decide) (fun c_337 => ?_) (fun c_337 => ?_)
  · have hF := hF.trans (if_pos c_337)
    have hO := hO.1 c_337
    exact k_m_work_b351 g C st x3 x4 x6 ((x1 >>> ((12 : Int32) &&& 31)) &&& (15 : Int32)) (m_mode st) x2 x9 x10 H locs ls hI (lv_sub hl [2, 5, 6, 7, 1, 0] rfl) hO X hF
  · have hF := hF.trans (if_neg c_337)
    have hO := hO.2 c_337
    refine lv_iload hx hb dX11_work_340 (lv_at hl 1 rfl) ?_
    refine lv_bipush (v := (15 : Int32)) hx hb dX11_work_342 (by decide) ?_
    refine lv_icmp_ge (tgt := 351) hx hb dX11_work_344 (by decide) (fun c_344 => ?_) (fun c_344 => ?_)
    · have hF := hF.trans (if_pos c_344)
      have hO := hO.1 c_344
      exact k_m_work_b351 g C st x3 x4 x6 ((x1 >>> ((12 : Int32) &&& 31)) &&& (15 : Int32)) (m_mode st) x2 x9 x10 H locs ls hI (lv_sub hl [2, 5, 6, 7, 1, 0] rfl) hO X hF
    · have hF := hF.trans (if_neg c_344)
      have hO := hO.2 c_344
      refine lv_iconst (v := (1 : Int32)) hx hb dX11_work_347 (by decide) ?_
      refine lv_goto (tgt := 352) hx hb dX11_work_348 (by decide) ?_
      exact k_m_work_b352 g C st x3 x4 x6 ((x1 >>> ((12 : Int32) &&& 31)) &&& (15 : Int32)) (m_mode st) x2 x9 x10 (1 : Int32) H locs ls hI (lv_sub hl [2, 5, 6, 7, 1, 0] rfl) hO X hF
def m_work_b313 (st : CS) (x1 : Int32) (x2 : Int32) (x3 : Int32) (x4 : Int32) (x6 : Int32) (x9 : Int32) (y0 : Int32) : CS × Int32 := (m_work_b315 st x1 x2 x3 x4 x6 x9 y0)
def o_m_work_b313 (st : CS) (x1 : Int32) (x2 : Int32) (x3 : Int32) (x4 : Int32) (x6 : Int32) (x9 : Int32) (y0 : Int32) : Prop := (o_m_work_b315 st x1 x2 x3 x4 x6 x9 y0)
set_option maxHeartbeats 4000000 in
set_option maxRecDepth 100000 in
theorem k_m_work_b313 {p : Program} {l : Launch} {e : Env} {s : State} {m : MethodId} {args : Array Value} {below : List Frame} {meth : Method} {c : Code} {A : Nat → Prop} (g : Gm) (C : cX p s m args meth c A cX11_work (some .int) 14 RX11 wq_X11_work (gD g) vwCl (mty g) (mz g)) (st : CS) (x1 : Int32) (x2 : Int32) (x3 : Int32) (x4 : Int32) (x6 : Int32) (x9 : Int32) (y0 : Int32) (H : Heap) (locs : List Loc) (ls : Array Slot) (hI : cI (gD g) vwCl (mw g) A s st H locs) (hl : lv_has ls 14 [(0, .ref (gad g 0)), (1, .int x1), (2, .int x2), (3, .int x3), (4, .int x4), (6, .int x6), (9, .int x9)]) (hO : o_m_work_b313 st x1 x2 x3 x4 x6 x9 y0) (X : CS × Int32) (hF : X = m_work_b313 st x1 x2 x3 x4 x6 x9 y0) : W p l e rm_m_work s m args below meth c H locs 0 0 (MQ below (cQi (gD g) vwCl (mty g) (mw g) A X.1 X.2) args s 0 0 A) (F0 m 313 ls [.int y0]) := by
  obtain ⟨hx, hb, hr, hml, hown, hts, hlocks, hK, hA, hZ, hzo⟩ := id C
  unfold m_work_b313 at hF
  unfold o_m_work_b313 at hO
  refine lv_istore (lv' := [(10, .int y0), (0, .ref (gad g 0)), (1, .int x1), (2, .int x2), (3, .int x3), (4, .int x4), (6, .int x6), (9, .int x9)]) hx hb dX11_work_313 hl (by decide) rfl (fun ls hl => ?_)
  exact k_m_work_b315 g C st x1 x2 x3 x4 x6 x9 y0 H locs ls hI (lv_sub hl [1, 2, 3, 4, 5, 6, 7, 0] rfl) hO X hF
def m_work_b301 (st : CS) (x1 : Int32) (x2 : Int32) (x3 : Int32) (x4 : Int32) (x6 : Int32) (x9 : Int32) (y0 : Int32) : CS × Int32 := (m_work_b315 st x1 x2 x3 x4 x6 x9 y0)
def o_m_work_b301 (st : CS) (x1 : Int32) (x2 : Int32) (x3 : Int32) (x4 : Int32) (x6 : Int32) (x9 : Int32) (y0 : Int32) : Prop := (o_m_work_b315 st x1 x2 x3 x4 x6 x9 y0)
set_option maxHeartbeats 4000000 in
set_option maxRecDepth 100000 in
theorem k_m_work_b301 {p : Program} {l : Launch} {e : Env} {s : State} {m : MethodId} {args : Array Value} {below : List Frame} {meth : Method} {c : Code} {A : Nat → Prop} (g : Gm) (C : cX p s m args meth c A cX11_work (some .int) 14 RX11 wq_X11_work (gD g) vwCl (mty g) (mz g)) (st : CS) (x1 : Int32) (x2 : Int32) (x3 : Int32) (x4 : Int32) (x6 : Int32) (x9 : Int32) (y0 : Int32) (H : Heap) (locs : List Loc) (ls : Array Slot) (hI : cI (gD g) vwCl (mw g) A s st H locs) (hl : lv_has ls 14 [(0, .ref (gad g 0)), (1, .int x1), (2, .int x2), (3, .int x3), (4, .int x4), (6, .int x6), (9, .int x9)]) (hO : o_m_work_b301 st x1 x2 x3 x4 x6 x9 y0) (X : CS × Int32) (hF : X = m_work_b301 st x1 x2 x3 x4 x6 x9 y0) : W p l e rm_m_work s m args below meth c H locs 0 0 (MQ below (cQi (gD g) vwCl (mty g) (mw g) A X.1 X.2) args s 0 0 A) (F0 m 301 ls [.int y0]) := by
  obtain ⟨hx, hb, hr, hml, hown, hts, hlocks, hK, hA, hZ, hzo⟩ := id C
  unfold m_work_b301 at hF
  unfold o_m_work_b301 at hO
  refine lv_istore (lv' := [(10, .int y0), (0, .ref (gad g 0)), (1, .int x1), (2, .int x2), (3, .int x3), (4, .int x4), (6, .int x6), (9, .int x9)]) hx hb dX11_work_301 hl (by decide) rfl (fun ls hl => ?_)
  refine lv_goto (tgt := 315) hx hb dX11_work_303 (by decide) ?_
  exact k_m_work_b315 g C st x1 x2 x3 x4 x6 x9 y0 H locs ls hI (lv_sub hl [1, 2, 3, 4, 5, 6, 7, 0] rfl) hO X hF
def m_work_b250 (st : CS) (x1 : Int32) (x2 : Int32) (x3 : Int32) (x4 : Int32) (x6 : Int32) (x9 : Int32) (x10 : Int32) (y0 : Int32) : CS × Int32 := (m_work_b315 (sI st 4 y0) x1 x2 x3 x4 x6 x9 x10)
def o_m_work_b250 (st : CS) (x1 : Int32) (x2 : Int32) (x3 : Int32) (x4 : Int32) (x6 : Int32) (x9 : Int32) (x10 : Int32) (y0 : Int32) : Prop := ((y0 = (0 : Int32) ∨ y0 = (1 : Int32)) ∧ (o_m_work_b315 (sI st 4 y0) x1 x2 x3 x4 x6 x9 x10))
set_option maxHeartbeats 4000000 in
set_option maxRecDepth 100000 in
theorem k_m_work_b250 {p : Program} {l : Launch} {e : Env} {s : State} {m : MethodId} {args : Array Value} {below : List Frame} {meth : Method} {c : Code} {A : Nat → Prop} (g : Gm) (C : cX p s m args meth c A cX11_work (some .int) 14 RX11 wq_X11_work (gD g) vwCl (mty g) (mz g)) (st : CS) (x1 : Int32) (x2 : Int32) (x3 : Int32) (x4 : Int32) (x6 : Int32) (x9 : Int32) (x10 : Int32) (y0 : Int32) (H : Heap) (locs : List Loc) (ls : Array Slot) (hI : cI (gD g) vwCl (mw g) A s st H locs) (hl : lv_has ls 14 [(0, .ref (gad g 0)), (1, .int x1), (2, .int x2), (3, .int x3), (4, .int x4), (6, .int x6), (9, .int x9), (10, .int x10)]) (hO : o_m_work_b250 st x1 x2 x3 x4 x6 x9 x10 y0) (X : CS × Int32) (hF : X = m_work_b250 st x1 x2 x3 x4 x6 x9 x10 y0) : W p l e rm_m_work s m args below meth c H locs 0 0 (MQ below (cQi (gD g) vwCl (mty g) (mw g) A X.1 X.2) args s 0 0 A) (F0 m 250 ls [.int y0, .ref (gad g 0)]) := by
  obtain ⟨hx, hb, hr, hml, hown, hts, hlocks, hK, hA, hZ, hzo⟩ := id C
  unfold m_work_b250 at hF
  unfold o_m_work_b250 at hO
  have hq_250_0 := hO.1
  have hO := hO.2
  refine va_put (D := gD g) (ci := 11) (C := RX11) (T := TX11) (N := 50) (v := .int y0) (ty := .boolean) hx hb hts (fun w h => List.mem_cons_of_mem _ (isX110 w h)) tyX11 tyX11_ok nmX11 hown hK hI.1 hI.2.1 hI.2.2 0 rfl rfl 8 (by decide) (hts _ (List.mem_cons_of_mem _ mw842)) (fun _ h9 => h9) rfl (by decide +kernel) (nar_b hq_250_0) (fit_b hq_250_0) (Nat.le_of_ble_eq_true rfl) dX11_work_250 (fun H locs hP hD hS => ?_)
  have hI : cI (gD g) vwCl (mw g) A s (sI st 4 y0) H locs := ⟨hP, hD, hS⟩
  refine lv_goto (tgt := 315) hx hb dX11_work_253 (by decide) ?_
  exact k_m_work_b315 g C (sI st 4 y0) x1 x2 x3 x4 x6 x9 x10 H locs ls hI (lv_sub hl [0, 1, 2, 3, 4, 5, 6, 7] rfl) hO X hF
def m_work_b187 (st : CS) (x1 : Int32) (x2 : Int32) (x3 : Int32) (x4 : Int32) (x5 : Int32) (x6 : Int32) (x9 : Int32) (y0 : Int32) : CS × Int32 := (if (x5 = 0) then (if (x6 = 0) then (m_work_b313 (m_byNumber (sI st 4 (m_is st (29 : Int32))) x1 y0).1 x1 x2 x3 x4 x6 x9 (m_byNumber (sI st 4 (m_is st (29 : Int32))) x1 y0).2) else (if (((m_operand (sI st 4 (m_is st (29 : Int32))) ((x1 >>> ((8 : Int32) &&& 31)) &&& (15 : Int32))) &&& (255 : Int32)) = 0) then (m_work_b301 (sI st 4 (m_is st (29 : Int32))) x1 x2 x3 x4 x6 x9 y0) else (m_work_b301 (m_moved (sI st 4 (m_is st (29 : Int32))) ((x1 >>> ((5 : Int32) &&& 31)) &&& (3 : Int32)) y0 ((m_operand (sI st 4 (m_is st (29 : Int32))) ((x1 >>> ((8 : Int32) &&& 31)) &&& (15 : Int32))) &&& (255 : Int32))).1 x1 x2 x3 x4 x6 x9 (m_moved (sI st 4 (m_is st (29 : Int32))) ((x1 >>> ((5 : Int32) &&& 31)) &&& (3 : Int32)) y0 ((m_operand (sI st 4 (m_is st (29 : Int32))) ((x1 >>> ((8 : Int32) &&& 31)) &&& (15 : Int32))) &&& (255 : Int32))).2))) else (if (((2 : Int32) * ((x1 >>> ((8 : Int32) &&& 31)) &&& (15 : Int32))) = 0) then (m_work_b250 (sI st 4 (m_is st (29 : Int32))) x1 x2 x3 x4 x6 x9 (m_turned (x1 &&& (255 : Int32)) ((2 : Int32) * ((x1 >>> ((8 : Int32) &&& 31)) &&& (15 : Int32)))) (m_is st (29 : Int32))) else (if (0 ≤ (m_turned (x1 &&& (255 : Int32)) ((2 : Int32) * ((x1 >>> ((8 : Int32) &&& 31)) &&& (15 : Int32))))) then (m_work_b250 (sI st 4 (m_is st (29 : Int32))) x1 x2 x3 x4 x6 x9 (m_turned (x1 &&& (255 : Int32)) ((2 : Int32) * ((x1 >>> ((8 : Int32) &&& 31)) &&& (15 : Int32)))) (0 : Int32)) else (m_work_b250 (sI st 4 (m_is st (29 : Int32))) x1 x2 x3 x4 x6 x9 (m_turned (x1 &&& (255 : Int32)) ((2 : Int32) * ((x1 >>> ((8 : Int32) &&& 31)) &&& (15 : Int32)))) (1 : Int32)))))
def o_m_work_b187 (st : CS) (x1 : Int32) (x2 : Int32) (x3 : Int32) (x4 : Int32) (x5 : Int32) (x6 : Int32) (x9 : Int32) (y0 : Int32) : Prop := (((m_is st (29 : Int32)) = (0 : Int32) ∨ (m_is st (29 : Int32)) = (1 : Int32)) ∧ (((x5 = 0) → (((x6 = 0) → ((o_m_byNumber (sI st 4 (m_is st (29 : Int32))) x1 y0) ∧ (o_m_work_b313 (m_byNumber (sI st 4 (m_is st (29 : Int32))) x1 y0).1 x1 x2 x3 x4 x6 x9 (m_byNumber (sI st 4 (m_is st (29 : Int32))) x1 y0).2))) ∧ (¬ (x6 = 0) → ((o_m_operand (sI st 4 (m_is st (29 : Int32))) ((x1 >>> ((8 : Int32) &&& 31)) &&& (15 : Int32))) ∧ (((((m_operand (sI st 4 (m_is st (29 : Int32))) ((x1 >>> ((8 : Int32) &&& 31)) &&& (15 : Int32))) &&& (255 : Int32)) = 0) → (o_m_work_b301 (sI st 4 (m_is st (29 : Int32))) x1 x2 x3 x4 x6 x9 y0)) ∧ (¬ (((m_operand (sI st 4 (m_is st (29 : Int32))) ((x1 >>> ((8 : Int32) &&& 31)) &&& (15 : Int32))) &&& (255 : Int32)) = 0) → ((o_m_moved (sI st 4 (m_is st (29 : Int32))) ((x1 >>> ((5 : Int32) &&& 31)) &&& (3 : Int32)) y0 ((m_operand (sI st 4 (m_is st (29 : Int32))) ((x1 >>> ((8 : Int32) &&& 31)) &&& (15 : Int32))) &&& (255 : Int32))) ∧ (o_m_work_b301 (m_moved (sI st 4 (m_is st (29 : Int32))) ((x1 >>> ((5 : Int32) &&& 31)) &&& (3 : Int32)) y0 ((m_operand (sI st 4 (m_is st (29 : Int32))) ((x1 >>> ((8 : Int32) &&& 31)) &&& (15 : Int32))) &&& (255 : Int32))).1 x1 x2 x3 x4 x6 x9 (m_moved (sI st 4 (m_is st (29 : Int32))) ((x1 >>> ((5 : Int32) &&& 31)) &&& (3 : Int32)) y0 ((m_operand (sI st 4 (m_is st (29 : Int32))) ((x1 >>> ((8 : Int32) &&& 31)) &&& (15 : Int32))) &&& (255 : Int32))).2)))))))) ∧ (¬ (x5 = 0) → (((((2 : Int32) * ((x1 >>> ((8 : Int32) &&& 31)) &&& (15 : Int32))) = 0) → (o_m_work_b250 (sI st 4 (m_is st (29 : Int32))) x1 x2 x3 x4 x6 x9 (m_turned (x1 &&& (255 : Int32)) ((2 : Int32) * ((x1 >>> ((8 : Int32) &&& 31)) &&& (15 : Int32)))) (m_is st (29 : Int32)))) ∧ (¬ (((2 : Int32) * ((x1 >>> ((8 : Int32) &&& 31)) &&& (15 : Int32))) = 0) → (((0 ≤ (m_turned (x1 &&& (255 : Int32)) ((2 : Int32) * ((x1 >>> ((8 : Int32) &&& 31)) &&& (15 : Int32))))) → (o_m_work_b250 (sI st 4 (m_is st (29 : Int32))) x1 x2 x3 x4 x6 x9 (m_turned (x1 &&& (255 : Int32)) ((2 : Int32) * ((x1 >>> ((8 : Int32) &&& 31)) &&& (15 : Int32)))) (0 : Int32))) ∧ (¬ (0 ≤ (m_turned (x1 &&& (255 : Int32)) ((2 : Int32) * ((x1 >>> ((8 : Int32) &&& 31)) &&& (15 : Int32))))) → (o_m_work_b250 (sI st 4 (m_is st (29 : Int32))) x1 x2 x3 x4 x6 x9 (m_turned (x1 &&& (255 : Int32)) ((2 : Int32) * ((x1 >>> ((8 : Int32) &&& 31)) &&& (15 : Int32)))) (1 : Int32)))))))))
set_option maxHeartbeats 4000000 in
set_option maxRecDepth 100000 in
theorem k_m_work_b187 {p : Program} {l : Launch} {e : Env} {s : State} {m : MethodId} {args : Array Value} {below : List Frame} {meth : Method} {c : Code} {A : Nat → Prop} (g : Gm) (C : cX p s m args meth c A cX11_work (some .int) 14 RX11 wq_X11_work (gD g) vwCl (mty g) (mz g)) (st : CS) (x1 : Int32) (x2 : Int32) (x3 : Int32) (x4 : Int32) (x5 : Int32) (x6 : Int32) (x9 : Int32) (y0 : Int32) (H : Heap) (locs : List Loc) (ls : Array Slot) (hI : cI (gD g) vwCl (mw g) A s st H locs) (hl : lv_has ls 14 [(0, .ref (gad g 0)), (1, .int x1), (2, .int x2), (3, .int x3), (4, .int x4), (5, .int x5), (6, .int x6), (9, .int x9)]) (hO : o_m_work_b187 st x1 x2 x3 x4 x5 x6 x9 y0) (X : CS × Int32) (hF : X = m_work_b187 st x1 x2 x3 x4 x5 x6 x9 y0) : W p l e rm_m_work s m args below meth c H locs 0 0 (MQ below (cQi (gD g) vwCl (mty g) (mw g) A X.1 X.2) args s 0 0 A) (F0 m 187 ls [.int y0]) := by
  obtain ⟨hx, hb, hr, hml, hown, hts, hlocks, hK, hA, hZ, hzo⟩ := id C
  unfold m_work_b187 at hF
  unfold o_m_work_b187 at hO
  refine lv_istore (lv' := [(10, .int y0), (0, .ref (gad g 0)), (1, .int x1), (2, .int x2), (3, .int x3), (4, .int x4), (5, .int x5), (6, .int x6), (9, .int x9)]) hx hb dX11_work_187 hl (by decide) rfl (fun ls hl => ?_)
  refine lv_aload_n hx hb dX11_work_189 rfl (lv_at hl 1 rfl) ?_
  refine lv_aload_n hx hb dX11_work_190 rfl (lv_at hl 1 rfl) ?_
  refine lv_bipush (v := (29 : Int32)) hx hb dX11_work_191 (by decide) ?_
  refine cx_Vi (As := [.int (29 : Int32)]) (rest := [.ref (gad g 0)]) C (c_m_is l g st (29 : Int32)) (cwV 1 hts (gd_V _ mw761 mw762 mw763 mw3 mw764) rfl rfl rfl yd_yX11_is ⟨Nat.le_of_ble_eq_true rfl, Nat.le_of_ble_eq_true rfl⟩) (va_recv hK hI.1 (ci := 11) (q0 := 0) rfl rfl) hI rfl hl.1 rfl (Nat.le_of_ble_eq_true rfl) dX11_work_193 (fun H locs hI => ?_)
  have hq_196_0 := hO.1
  have hO := hO.2
  refine va_put (D := gD g) (ci := 11) (C := RX11) (T := TX11) (N := 50) (v := .int (m_is st (29 : Int32))) (ty := .boolean) hx hb hts (fun w h => List.mem_cons_of_mem _ (isX110 w h)) tyX11 tyX11_ok nmX11 hown hK hI.1 hI.2.1 hI.2.2 0 rfl rfl 8 (by decide) (hts _ (List.mem_cons_of_mem _ mw842)) (fun _ h9 => h9) rfl (by decide +kernel) (nar_b hq_196_0) (fit_b hq_196_0) (Nat.le_of_ble_eq_true rfl) dX11_work_196 (fun H locs hP hD hS => ?_)
  have hI : cI (gD g) vwCl (mw g) A s (sI st 4 (m_is st (29 : Int32))) H locs := ⟨hP, hD, hS⟩
  refine lv_iload hx hb dX11_work_199 (lv_at hl 6 rfl) ?_
  refine lv_if_eq (tgt := 256) hx hb dX11_work_201 (by decide) (fun c_201 => ?_) (fun c_201 => ?_)
  · have hF := hF.trans (if_pos c_201)
    have hO := hO.1 c_201
    refine lv_iload hx hb dX11_work_256 (lv_at hl 7 rfl) ?_
    refine lv_if_eq (tgt := 306) hx hb dX11_work_258 (by decide) (fun c_258 => ?_) (fun c_258 => ?_)
    · have hF := hF.trans (if_pos c_258)
      have hO := hO.1 c_258
      refine lv_aload_n hx hb dX11_work_306 rfl (lv_at hl 1 rfl) ?_
      refine lv_iload_n hx hb dX11_work_307 rfl (lv_at hl 2 rfl) ?_
      refine lv_iload hx hb dX11_work_308 (lv_at hl 0 rfl) ?_
      have hq_310_0 := hO.1
      have hO := hO.2
      refine cx_Vi (As := [.int x1, .int y0]) (rest := []) C (c_m_byNumber l g (sI st 4 (m_is st (29 : Int32))) x1 y0 hq_310_0) (cwV 2 hts (gd_V _ mw853 mw854 mw855 mw3 mw856) rfl rfl rfl yd_yX11_byNumber ⟨Nat.le_of_ble_eq_true rfl, Nat.le_of_ble_eq_true rfl⟩) (va_recv hK hI.1 (ci := 11) (q0 := 0) rfl rfl) hI rfl hl.1 rfl (Nat.le_of_ble_eq_true rfl) dX11_work_310 (fun H locs hI => ?_)
      exact k_m_work_b313 g C (m_byNumber (sI st 4 (m_is st (29 : Int32))) x1 y0).1 x1 x2 x3 x4 x6 x9 (m_byNumber (sI st 4 (m_is st (29 : Int32))) x1 y0).2 H locs ls hI (lv_sub hl [1, 2, 3, 4, 5, 7, 8] rfl) hO X hF
    · have hF := hF.trans (if_neg c_258)
      have hO := hO.2 c_258
      refine lv_aload_n hx hb dX11_work_261 rfl (lv_at hl 1 rfl) ?_
      refine lv_iload_n hx hb dX11_work_262 rfl (lv_at hl 2 rfl) ?_
      refine lv_bipush (v := (8 : Int32)) hx hb dX11_work_263 (by decide) ?_
      refine lv_ishr hx hb dX11_work_265 ?_
      refine lv_bipush (v := (15 : Int32)) hx hb dX11_work_266 (by decide) ?_
      refine lv_iand hx hb dX11_work_268 ?_
      have hq_269_0 := hO.1
      have hO := hO.2
      refine cx_Vi (As := [.int ((x1 >>> ((8 : Int32) &&& 31)) &&& (15 : Int32))]) (rest := []) C (c_m_operand l g (sI st 4 (m_is st (29 : Int32))) ((x1 >>> ((8 : Int32) &&& 31)) &&& (15 : Int32)) hq_269_0) (cwV 1 hts (gd_V _ mw826 mw827 mw828 mw3 mw829) rfl rfl rfl yd_yX11_operand ⟨Nat.le_of_ble_eq_true rfl, Nat.le_of_ble_eq_true rfl⟩) (va_recv hK hI.1 (ci := 11) (q0 := 0) rfl rfl) hI rfl hl.1 rfl (Nat.le_of_ble_eq_true rfl) dX11_work_269 (fun H locs hI => ?_)
      refine lv_sipush (v := (255 : Int32)) hx hb dX11_work_272 (by decide) ?_
      refine lv_iand hx hb dX11_work_275 ?_
      refine lv_istore (lv' := [(11, .int ((m_operand (sI st 4 (m_is st (29 : Int32))) ((x1 >>> ((8 : Int32) &&& 31)) &&& (15 : Int32))) &&& (255 : Int32))), (10, .int y0), (0, .ref (gad g 0)), (1, .int x1), (2, .int x2), (3, .int x3), (4, .int x4), (5, .int x5), (6, .int x6), (9, .int x9)]) hx hb dX11_work_276 hl (by decide) rfl (fun ls hl => ?_)
      refine lv_iload hx hb dX11_work_278 (lv_at hl 0 rfl) ?_
      refine lv_if_ne (tgt := 288) hx hb dX11_work_280 (by decide) (fun c_280 => ?_) (fun c_280 => ?_)
      · have hF := hF.trans (if_neg c_280)
        have hO := hO.2 c_280
        refine lv_aload_n hx hb dX11_work_288 rfl (lv_at hl 2 rfl) ?_
        refine lv_iload_n hx hb dX11_work_289 rfl (lv_at hl 3 rfl) ?_
        refine lv_iconst (v := (5 : Int32)) hx hb dX11_work_290 (by decide) ?_
        refine lv_ishr hx hb dX11_work_291 ?_
        refine lv_iconst (v := (3 : Int32)) hx hb dX11_work_292 (by decide) ?_
        refine lv_iand hx hb dX11_work_293 ?_
        refine lv_iload hx hb dX11_work_294 (lv_at hl 1 rfl) ?_
        refine lv_iload hx hb dX11_work_296 (lv_at hl 0 rfl) ?_
        have hq_298_0 := hO.1
        have hO := hO.2
        refine cx_Vi (As := [.int ((x1 >>> ((5 : Int32) &&& 31)) &&& (3 : Int32)), .int y0, .int ((m_operand (sI st 4 (m_is st (29 : Int32))) ((x1 >>> ((8 : Int32) &&& 31)) &&& (15 : Int32))) &&& (255 : Int32))]) (rest := []) C (c_m_moved l g (sI st 4 (m_is st (29 : Int32))) ((x1 >>> ((5 : Int32) &&& 31)) &&& (3 : Int32)) y0 ((m_operand (sI st 4 (m_is st (29 : Int32))) ((x1 >>> ((8 : Int32) &&& 31)) &&& (15 : Int32))) &&& (255 : Int32)) hq_298_0) (cwV 3 hts (gd_V _ mw846 mw847 mw848 mw3 mw849) rfl rfl rfl yd_yX11_moved ⟨Nat.le_of_ble_eq_true rfl, Nat.le_of_ble_eq_true rfl⟩) (va_recv hK hI.1 (ci := 11) (q0 := 0) rfl rfl) hI rfl hl.1 rfl (Nat.le_of_ble_eq_true rfl) dX11_work_298 (fun H locs hI => ?_)
        exact k_m_work_b301 g C (m_moved (sI st 4 (m_is st (29 : Int32))) ((x1 >>> ((5 : Int32) &&& 31)) &&& (3 : Int32)) y0 ((m_operand (sI st 4 (m_is st (29 : Int32))) ((x1 >>> ((8 : Int32) &&& 31)) &&& (15 : Int32))) &&& (255 : Int32))).1 x1 x2 x3 x4 x6 x9 (m_moved (sI st 4 (m_is st (29 : Int32))) ((x1 >>> ((5 : Int32) &&& 31)) &&& (3 : Int32)) y0 ((m_operand (sI st 4 (m_is st (29 : Int32))) ((x1 >>> ((8 : Int32) &&& 31)) &&& (15 : Int32))) &&& (255 : Int32))).2 H locs ls hI (lv_sub hl [2, 3, 4, 5, 6, 8, 9] rfl) hO X hF
      · have hF := hF.trans (if_pos c_280)
        have hO := hO.1 c_280
        refine lv_iload hx hb dX11_work_283 (lv_at hl 1 rfl) ?_
        refine lv_goto (tgt := 301) hx hb dX11_work_285 (by decide) ?_
        exact k_m_work_b301 g C (sI st 4 (m_is st (29 : Int32))) x1 x2 x3 x4 x6 x9 y0 H locs ls hI (lv_sub hl [2, 3, 4, 5, 6, 8, 9] rfl) hO X hF
  · have hF := hF.trans (if_neg c_201)
    have hO := hO.2 c_201
    refine lv_iconst (v := (2 : Int32)) hx hb dX11_work_204 (by decide) ?_
    refine lv_iload_n hx hb dX11_work_205 rfl (lv_at hl 2 rfl) ?_
    refine lv_bipush (v := (8 : Int32)) hx hb dX11_work_206 (by decide) ?_
    refine lv_ishr hx hb dX11_work_208 ?_
    refine lv_bipush (v := (15 : Int32)) hx hb dX11_work_209 (by decide) ?_
    refine lv_iand hx hb dX11_work_211 ?_
    refine lv_imul hx hb dX11_work_212 ?_
    refine lv_istore (lv' := [(11, .int ((2 : Int32) * ((x1 >>> ((8 : Int32) &&& 31)) &&& (15 : Int32)))), (10, .int y0), (0, .ref (gad g 0)), (1, .int x1), (2, .int x2), (3, .int x3), (4, .int x4), (5, .int x5), (6, .int x6), (9, .int x9)]) hx hb dX11_work_213 hl (by decide) rfl (fun ls hl => ?_)
    refine lv_iload_n hx hb dX11_work_215 rfl (lv_at hl 3 rfl) ?_
    refine lv_sipush (v := (255 : Int32)) hx hb dX11_work_216 (by decide) ?_
    refine lv_iand hx hb dX11_work_219 ?_
    refine lv_iload hx hb dX11_work_220 (lv_at hl 0 rfl) ?_
    refine cx_Si (As := [.int (x1 &&& (255 : Int32)), .int ((2 : Int32) * ((x1 >>> ((8 : Int32) &&& 31)) &&& (15 : Int32)))]) (rest := []) C (c_m_turned l g (sI st 4 (m_is st (29 : Int32))) (x1 &&& (255 : Int32)) ((2 : Int32) * ((x1 >>> ((8 : Int32) &&& 31)) &&& (15 : Int32)))) (va_cwS 2 hts (gd_S _ mw843 mw844 mw3 mw845) rfl rfl rfl yd_yX11_turned ⟨Nat.le_of_ble_eq_true rfl, Nat.le_of_ble_eq_true rfl⟩) hI rfl hl.1 rfl (Nat.le_of_ble_eq_true rfl) dX11_work_222 (fun H locs hI => ?_)
    refine lv_istore (lv' := [(10, .int (m_turned (x1 &&& (255 : Int32)) ((2 : Int32) * ((x1 >>> ((8 : Int32) &&& 31)) &&& (15 : Int32))))), (11, .int ((2 : Int32) * ((x1 >>> ((8 : Int32) &&& 31)) &&& (15 : Int32)))), (0, .ref (gad g 0)), (1, .int x1), (2, .int x2), (3, .int x3), (4, .int x4), (5, .int x5), (6, .int x6), (9, .int x9)]) hx hb dX11_work_225 hl (by decide) rfl (fun ls hl => ?_)
    refine lv_aload_n hx hb dX11_work_227 rfl (lv_at hl 2 rfl) ?_
    refine lv_iload hx hb dX11_work_228 (lv_at hl 1 rfl) ?_
    refine lv_if_ne (tgt := 240) hx hb dX11_work_230 (by decide) (fun c_230 => ?_) (fun c_230 => ?_)
    · have hF := hF.trans (if_neg c_230)
      have hO := hO.2 c_230
      refine lv_iload hx hb dX11_work_240 (lv_at hl 0 rfl) ?_
      refine lv_if_ge (tgt := 249) hx hb dX11_work_242 (by decide) (fun c_242 => ?_) (fun c_242 => ?_)
      · have hF := hF.trans (if_pos c_242)
        have hO := hO.1 c_242
        refine lv_iconst (v := (0 : Int32)) hx hb dX11_work_249 (by decide) ?_
        exact k_m_work_b250 g C (sI st 4 (m_is st (29 : Int32))) x1 x2 x3 x4 x6 x9 (m_turned (x1 &&& (255 : Int32)) ((2 : Int32) * ((x1 >>> ((8 : Int32) &&& 31)) &&& (15 : Int32)))) (0 : Int32) H locs ls hI (lv_sub hl [2, 3, 4, 5, 6, 8, 9, 0] rfl) hO X hF
      · have hF := hF.trans (if_neg c_242)
        have hO := hO.2 c_242
        refine lv_iconst (v := (1 : Int32)) hx hb dX11_work_245 (by decide) ?_
        refine lv_goto (tgt := 250) hx hb dX11_work_246 (by decide) ?_
        exact k_m_work_b250 g C (sI st 4 (m_is st (29 : Int32))) x1 x2 x3 x4 x6 x9 (m_turned (x1 &&& (255 : Int32)) ((2 : Int32) * ((x1 >>> ((8 : Int32) &&& 31)) &&& (15 : Int32)))) (1 : Int32) H locs ls hI (lv_sub hl [2, 3, 4, 5, 6, 8, 9, 0] rfl) hO X hF
    · have hF := hF.trans (if_pos c_230)
      have hO := hO.1 c_230
      refine lv_aload_n hx hb dX11_work_233 rfl (lv_at hl 2 rfl) ?_
      refine va_get (D := gD g) (ci := 11) (C := RX11) (T := TX11) (N := 50) (v := .int (m_is st (29 : Int32))) hx hb hts (fun w h => List.mem_cons_of_mem _ (isX110 w h)) hown hK hI.1 0 rfl rfl 8 (by decide) (hts _ (List.mem_cons_of_mem _ mw842)) (fun _ h9 => h9) rfl dX11_work_234 ?_
      refine lv_goto (tgt := 250) hx hb dX11_work_237 (by decide) ?_
      exact k_m_work_b250 g C (sI st 4 (m_is st (29 : Int32))) x1 x2 x3 x4 x6 x9 (m_turned (x1 &&& (255 : Int32)) ((2 : Int32) * ((x1 >>> ((8 : Int32) &&& 31)) &&& (15 : Int32)))) (m_is st (29 : Int32)) H locs ls hI (lv_sub hl [2, 3, 4, 5, 6, 8, 9, 0] rfl) hO X hF
def m_work_b151 (st : CS) (x1 : Int32) (x2 : Int32) (x3 : Int32) (x4 : Int32) (x5 : Int32) (x6 : Int32) (x7 : Int32) (x8 : Int32) (y0 : Int32) : CS × Int32 := (if (x8 = (15 : Int32)) then (m_work_b187 st x1 x2 x3 x4 x5 x6 y0 (((gI st 1) &&& (-67108861 : Int32)) ||| (m_ahead st x7))) else (m_work_b187 st x1 x2 x3 x4 x5 x6 y0 (m_get st (m_mode st) x8)))
def o_m_work_b151 (st : CS) (x1 : Int32) (x2 : Int32) (x3 : Int32) (x4 : Int32) (x5 : Int32) (x6 : Int32) (x7 : Int32) (x8 : Int32) (y0 : Int32) : Prop := (((x8 = (15 : Int32)) → (o_m_work_b187 st x1 x2 x3 x4 x5 x6 y0 (((gI st 1) &&& (-67108861 : Int32)) ||| (m_ahead st x7)))) ∧ (¬ (x8 = (15 : Int32)) → ((o_m_get st (m_mode st) x8) ∧ (o_m_work_b187 st x1 x2 x3 x4 x5 x6 y0 (m_get st (m_mode st) x8)))))
set_option maxHeartbeats 4000000 in
set_option maxRecDepth 100000 in
theorem k_m_work_b151 {p : Program} {l : Launch} {e : Env} {s : State} {m : MethodId} {args : Array Value} {below : List Frame} {meth : Method} {c : Code} {A : Nat → Prop} (g : Gm) (C : cX p s m args meth c A cX11_work (some .int) 14 RX11 wq_X11_work (gD g) vwCl (mty g) (mz g)) (st : CS) (x1 : Int32) (x2 : Int32) (x3 : Int32) (x4 : Int32) (x5 : Int32) (x6 : Int32) (x7 : Int32) (x8 : Int32) (y0 : Int32) (H : Heap) (locs : List Loc) (ls : Array Slot) (hI : cI (gD g) vwCl (mw g) A s st H locs) (hl : lv_has ls 14 [(0, .ref (gad g 0)), (1, .int x1), (2, .int x2), (3, .int x3), (4, .int x4), (5, .int x5), (6, .int x6), (7, .int x7), (8, .int x8)]) (hO : o_m_work_b151 st x1 x2 x3 x4 x5 x6 x7 x8 y0) (X : CS × Int32) (hF : X = m_work_b151 st x1 x2 x3 x4 x5 x6 x7 x8 y0) : W p l e rm_m_work s m args below meth c H locs 0 0 (MQ below (cQi (gD g) vwCl (mty g) (mw g) A X.1 X.2) args s 0 0 A) (F0 m 151 ls [.int y0]) := by
  obtain ⟨hx, hb, hr, hml, hown, hts, hlocks, hK, hA, hZ, hzo⟩ := id C
  unfold m_work_b151 at hF
  unfold o_m_work_b151 at hO
  refine lv_istore (lv' := [(9, .int y0), (0, .ref (gad g 0)), (1, .int x1), (2, .int x2), (3, .int x3), (4, .int x4), (5, .int x5), (6, .int x6), (7, .int x7), (8, .int x8)]) hx hb dX11_work_151 hl (by decide) rfl (fun ls hl => ?_)
  refine lv_iload hx hb dX11_work_153 (lv_at hl 9 rfl) ?_
  refine lv_bipush (v := (15 : Int32)) hx hb dX11_work_155 (by decide) ?_
  refine lv_icmp_ne (tgt := 177) hx hb dX11_work_157 (by decide) (fun c_157 => ?_) (fun c_157 => ?_)
  · have hF := hF.trans (if_neg c_157)
    have hO := hO.2 c_157
    refine lv_aload_n hx hb dX11_work_177 rfl (lv_at hl 1 rfl) ?_
    refine lv_aload_n hx hb dX11_work_178 rfl (lv_at hl 1 rfl) ?_
    refine cx_Vi (As := []) (rest := [.ref (gad g 0)]) C (c_m_mode l g st ) (cwV 0 hts (gd_V _ mw796 mw797 mw798 mw3 mw799) rfl rfl rfl yd_yX11_mode ⟨Nat.le_of_ble_eq_true rfl, Nat.le_of_ble_eq_true rfl⟩) (va_recv hK hI.1 (ci := 11) (q0 := 0) rfl rfl) hI rfl hl.1 rfl (Nat.le_of_ble_eq_true rfl) dX11_work_179 (fun H locs hI => ?_)
    refine lv_iload hx hb dX11_work_182 (lv_at hl 9 rfl) ?_
    have hq_184_0 := hO.1
    have hO := hO.2
    refine cx_Vi (As := [.int (m_mode st), .int x8]) (rest := []) C (c_m_get l g st (m_mode st) x8 hq_184_0) (cwV 2 hts (gd_V _ mw830 mw831 mw832 mw3 mw833) rfl rfl rfl yd_yX11_get ⟨Nat.le_of_ble_eq_true rfl, Nat.le_of_ble_eq_true rfl⟩) (va_recv hK hI.1 (ci := 11) (q0 := 0) rfl rfl) hI rfl hl.1 rfl (Nat.le_of_ble_eq_true rfl) dX11_work_184 (fun H locs hI => ?_)
    exact k_m_work_b187 g C st x1 x2 x3 x4 x5 x6 y0 (m_get st (m_mode st) x8) H locs ls hI (lv_sub hl [1, 2, 3, 4, 5, 6, 7, 0] rfl) hO X hF
  · have hF := hF.trans (if_pos c_157)
    have hO := hO.1 c_157
    refine lv_aload_n hx hb dX11_work_160 rfl (lv_at hl 1 rfl) ?_
    refine va_get (D := gD g) (ci := 11) (C := RX11) (T := TX11) (N := 50) (v := .int (gI st 1)) hx hb hts (fun w h => List.mem_cons_of_mem _ (isX110 w h)) hown hK hI.1 0 rfl rfl 5 (by decide) (hts _ (List.mem_cons_of_mem _ mw210)) (fun _ h9 => h9) rfl dX11_work_161 ?_
    refine lv_ldc (v := (-67108861 : Int32)) hx hb hown (hts _ (List.mem_cons_of_mem _ mw752)) dX11_work_164 ?_
    refine lv_iand hx hb dX11_work_166 ?_
    refine lv_aload_n hx hb dX11_work_167 rfl (lv_at hl 1 rfl) ?_
    refine lv_iload hx hb dX11_work_168 (lv_at hl 8 rfl) ?_
    refine cx_Vi (As := [.int x7]) (rest := [.int ((gI st 1) &&& (-67108861 : Int32))]) C (c_m_ahead l g st x7) (cwV 1 hts (gd_V _ mw769 mw770 mw771 mw3 mw772) rfl rfl rfl yd_yX11_ahead ⟨Nat.le_of_ble_eq_true rfl, Nat.le_of_ble_eq_true rfl⟩) (va_recv hK hI.1 (ci := 11) (q0 := 0) rfl rfl) hI rfl hl.1 rfl (Nat.le_of_ble_eq_true rfl) dX11_work_170 (fun H locs hI => ?_)
    refine lv_ior hx hb dX11_work_173 ?_
    refine lv_goto (tgt := 187) hx hb dX11_work_174 (by decide) ?_
    exact k_m_work_b187 g C st x1 x2 x3 x4 x5 x6 y0 (((gI st 1) &&& (-67108861 : Int32)) ||| (m_ahead st x7)) H locs ls hI (lv_sub hl [1, 2, 3, 4, 5, 6, 7, 0] rfl) hO X hF
def m_work_b107 (st : CS) (x1 : Int32) (x2 : Int32) (x3 : Int32) (x4 : Int32) (x5 : Int32) (x6 : Int32) (y0 : Int32) : CS × Int32 := (if (((x1 >>> ((16 : Int32) &&& 31)) &&& (15 : Int32)) = (15 : Int32)) then (m_work_b151 st x1 x2 x3 x4 x5 x6 y0 (x1 &&& (15 : Int32)) (m_ahead st y0)) else (m_work_b151 st x1 x2 x3 x4 x5 x6 y0 (x1 &&& (15 : Int32)) (m_get st (m_mode st) ((x1 >>> ((16 : Int32) &&& 31)) &&& (15 : Int32)))))
def o_m_work_b107 (st : CS) (x1 : Int32) (x2 : Int32) (x3 : Int32) (x4 : Int32) (x5 : Int32) (x6 : Int32) (y0 : Int32) : Prop := (((((x1 >>> ((16 : Int32) &&& 31)) &&& (15 : Int32)) = (15 : Int32)) → (o_m_work_b151 st x1 x2 x3 x4 x5 x6 y0 (x1 &&& (15 : Int32)) (m_ahead st y0))) ∧ (¬ (((x1 >>> ((16 : Int32) &&& 31)) &&& (15 : Int32)) = (15 : Int32)) → ((o_m_get st (m_mode st) ((x1 >>> ((16 : Int32) &&& 31)) &&& (15 : Int32))) ∧ (o_m_work_b151 st x1 x2 x3 x4 x5 x6 y0 (x1 &&& (15 : Int32)) (m_get st (m_mode st) ((x1 >>> ((16 : Int32) &&& 31)) &&& (15 : Int32)))))))
set_option maxHeartbeats 4000000 in
set_option maxRecDepth 100000 in
theorem k_m_work_b107 {p : Program} {l : Launch} {e : Env} {s : State} {m : MethodId} {args : Array Value} {below : List Frame} {meth : Method} {c : Code} {A : Nat → Prop} (g : Gm) (C : cX p s m args meth c A cX11_work (some .int) 14 RX11 wq_X11_work (gD g) vwCl (mty g) (mz g)) (st : CS) (x1 : Int32) (x2 : Int32) (x3 : Int32) (x4 : Int32) (x5 : Int32) (x6 : Int32) (y0 : Int32) (H : Heap) (locs : List Loc) (ls : Array Slot) (hI : cI (gD g) vwCl (mw g) A s st H locs) (hl : lv_has ls 14 [(0, .ref (gad g 0)), (1, .int x1), (2, .int x2), (3, .int x3), (4, .int x4), (5, .int x5), (6, .int x6)]) (hO : o_m_work_b107 st x1 x2 x3 x4 x5 x6 y0) (X : CS × Int32) (hF : X = m_work_b107 st x1 x2 x3 x4 x5 x6 y0) : W p l e rm_m_work s m args below meth c H locs 0 0 (MQ below (cQi (gD g) vwCl (mty g) (mw g) A X.1 X.2) args s 0 0 A) (F0 m 107 ls [.int y0]) := by
  obtain ⟨hx, hb, hr, hml, hown, hts, hlocks, hK, hA, hZ, hzo⟩ := id C
  unfold m_work_b107 at hF
  unfold o_m_work_b107 at hO
  refine lv_istore (lv' := [(7, .int y0), (0, .ref (gad g 0)), (1, .int x1), (2, .int x2), (3, .int x3), (4, .int x4), (5, .int x5), (6, .int x6)]) hx hb dX11_work_107 hl (by decide) rfl (fun ls hl => ?_)
  refine lv_iload_n hx hb dX11_work_109 rfl (lv_at hl 2 rfl) ?_
  refine lv_bipush (v := (15 : Int32)) hx hb dX11_work_110 (by decide) ?_
  refine lv_iand hx hb dX11_work_112 ?_
  refine lv_istore (lv' := [(8, .int (x1 &&& (15 : Int32))), (7, .int y0), (0, .ref (gad g 0)), (1, .int x1), (2, .int x2), (3, .int x3), (4, .int x4), (5, .int x5), (6, .int x6)]) hx hb dX11_work_113 hl (by decide) rfl (fun ls hl => ?_)
  refine lv_iload_n hx hb dX11_work_115 rfl (lv_at hl 3 rfl) ?_
  refine lv_bipush (v := (16 : Int32)) hx hb dX11_work_116 (by decide) ?_
  refine lv_ishr hx hb dX11_work_118 ?_
  refine lv_bipush (v := (15 : Int32)) hx hb dX11_work_119 (by decide) ?_
  refine lv_iand hx hb dX11_work_121 ?_
  refine lv_bipush (v := (15 : Int32)) hx hb dX11_work_122 (by decide) ?_
  refine lv_icmp_ne (tgt := 136) hx hb dX11_work_124 (by decide) (fun c_124 => ?_) (fun c_124 => ?_)
  · have hF := hF.trans (if_neg c_124)
    have hO := hO.2 c_124
    refine lv_aload_n hx hb dX11_work_136 rfl (lv_at hl 2 rfl) ?_
    refine lv_aload_n hx hb dX11_work_137 rfl (lv_at hl 2 rfl) ?_
    refine cx_Vi (As := []) (rest := [.ref (gad g 0)]) C (c_m_mode l g st ) (cwV 0 hts (gd_V _ mw796 mw797 mw798 mw3 mw799) rfl rfl rfl yd_yX11_mode ⟨Nat.le_of_ble_eq_true rfl, Nat.le_of_ble_eq_true rfl⟩) (va_recv hK hI.1 (ci := 11) (q0 := 0) rfl rfl) hI rfl hl.1 rfl (Nat.le_of_ble_eq_true rfl) dX11_work_138 (fun H locs hI => ?_)
    refine lv_iload_n hx hb dX11_work_141 rfl (lv_at hl 3 rfl) ?_
    refine lv_bipush (v := (16 : Int32)) hx hb dX11_work_142 (by decide) ?_
    refine lv_ishr hx hb dX11_work_144 ?_
    refine lv_bipush (v := (15 : Int32)) hx hb dX11_work_145 (by decide) ?_
    refine lv_iand hx hb dX11_work_147 ?_
    have hq_148_0 := hO.1
    have hO := hO.2
    refine cx_Vi (As := [.int (m_mode st), .int ((x1 >>> ((16 : Int32) &&& 31)) &&& (15 : Int32))]) (rest := []) C (c_m_get l g st (m_mode st) ((x1 >>> ((16 : Int32) &&& 31)) &&& (15 : Int32)) hq_148_0) (cwV 2 hts (gd_V _ mw830 mw831 mw832 mw3 mw833) rfl rfl rfl yd_yX11_get ⟨Nat.le_of_ble_eq_true rfl, Nat.le_of_ble_eq_true rfl⟩) (va_recv hK hI.1 (ci := 11) (q0 := 0) rfl rfl) hI rfl hl.1 rfl (Nat.le_of_ble_eq_true rfl) dX11_work_148 (fun H locs hI => ?_)
    exact k_m_work_b151 g C st x1 x2 x3 x4 x5 x6 y0 (x1 &&& (15 : Int32)) (m_get st (m_mode st) ((x1 >>> ((16 : Int32) &&& 31)) &&& (15 : Int32))) H locs ls hI (lv_sub hl [2, 3, 4, 5, 6, 7, 8, 1, 0] rfl) hO X hF
  · have hF := hF.trans (if_pos c_124)
    have hO := hO.1 c_124
    refine lv_aload_n hx hb dX11_work_127 rfl (lv_at hl 2 rfl) ?_
    refine lv_iload hx hb dX11_work_128 (lv_at hl 1 rfl) ?_
    refine cx_Vi (As := [.int y0]) (rest := []) C (c_m_ahead l g st y0) (cwV 1 hts (gd_V _ mw769 mw770 mw771 mw3 mw772) rfl rfl rfl yd_yX11_ahead ⟨Nat.le_of_ble_eq_true rfl, Nat.le_of_ble_eq_true rfl⟩) (va_recv hK hI.1 (ci := 11) (q0 := 0) rfl rfl) hI rfl hl.1 rfl (Nat.le_of_ble_eq_true rfl) dX11_work_130 (fun H locs hI => ?_)
    refine lv_goto (tgt := 151) hx hb dX11_work_133 (by decide) ?_
    exact k_m_work_b151 g C st x1 x2 x3 x4 x5 x6 y0 (x1 &&& (15 : Int32)) (m_ahead st y0) H locs ls hI (lv_sub hl [2, 3, 4, 5, 6, 7, 8, 1, 0] rfl) hO X hF
def m_work_b93 (st : CS) (x1 : Int32) (x2 : Int32) (x3 : Int32) (x4 : Int32) (x5 : Int32) (y0 : Int32) : CS × Int32 := (if (y0 = 0) then (m_work_b107 st x1 x2 x3 x4 x5 y0 (8 : Int32)) else (m_work_b107 st x1 x2 x3 x4 x5 y0 (12 : Int32)))
def o_m_work_b93 (st : CS) (x1 : Int32) (x2 : Int32) (x3 : Int32) (x4 : Int32) (x5 : Int32) (y0 : Int32) : Prop := (((y0 = 0) → (o_m_work_b107 st x1 x2 x3 x4 x5 y0 (8 : Int32))) ∧ (¬ (y0 = 0) → (o_m_work_b107 st x1 x2 x3 x4 x5 y0 (12 : Int32))))
set_option maxHeartbeats 4000000 in
set_option maxRecDepth 100000 in
theorem k_m_work_b93 {p : Program} {l : Launch} {e : Env} {s : State} {m : MethodId} {args : Array Value} {below : List Frame} {meth : Method} {c : Code} {A : Nat → Prop} (g : Gm) (C : cX p s m args meth c A cX11_work (some .int) 14 RX11 wq_X11_work (gD g) vwCl (mty g) (mz g)) (st : CS) (x1 : Int32) (x2 : Int32) (x3 : Int32) (x4 : Int32) (x5 : Int32) (y0 : Int32) (H : Heap) (locs : List Loc) (ls : Array Slot) (hI : cI (gD g) vwCl (mw g) A s st H locs) (hl : lv_has ls 14 [(0, .ref (gad g 0)), (1, .int x1), (2, .int x2), (3, .int x3), (4, .int x4), (5, .int x5)]) (hO : o_m_work_b93 st x1 x2 x3 x4 x5 y0) (X : CS × Int32) (hF : X = m_work_b93 st x1 x2 x3 x4 x5 y0) : W p l e rm_m_work s m args below meth c H locs 0 0 (MQ below (cQi (gD g) vwCl (mty g) (mw g) A X.1 X.2) args s 0 0 A) (F0 m 93 ls [.int y0]) := by
  obtain ⟨hx, hb, hr, hml, hown, hts, hlocks, hK, hA, hZ, hzo⟩ := id C
  unfold m_work_b93 at hF
  unfold o_m_work_b93 at hO
  refine lv_istore (lv' := [(6, .int y0), (0, .ref (gad g 0)), (1, .int x1), (2, .int x2), (3, .int x3), (4, .int x4), (5, .int x5)]) hx hb dX11_work_93 hl (by decide) rfl (fun ls hl => ?_)
  refine lv_iload hx hb dX11_work_95 (lv_at hl 0 rfl) ?_
  refine lv_if_eq (tgt := 105) hx hb dX11_work_97 (by decide) (fun c_97 => ?_) (fun c_97 => ?_)
  · have hF := hF.trans (if_pos c_97)
    have hO := hO.1 c_97
    refine lv_bipush (v := (8 : Int32)) hx hb dX11_work_105 (by decide) ?_
    exact k_m_work_b107 g C st x1 x2 x3 x4 x5 y0 (8 : Int32) H locs ls hI (lv_sub hl [1, 2, 3, 4, 5, 6, 0] rfl) hO X hF
  · have hF := hF.trans (if_neg c_97)
    have hO := hO.2 c_97
    refine lv_bipush (v := (12 : Int32)) hx hb dX11_work_100 (by decide) ?_
    refine lv_goto (tgt := 107) hx hb dX11_work_102 (by decide) ?_
    exact k_m_work_b107 g C st x1 x2 x3 x4 x5 y0 (12 : Int32) H locs ls hI (lv_sub hl [1, 2, 3, 4, 5, 6, 0] rfl) hO X hF
def m_work_b92 (st : CS) (x1 : Int32) (x2 : Int32) (x3 : Int32) (x4 : Int32) (x5 : Int32) : CS × Int32 := (m_work_b93 st x1 x2 x3 x4 x5 (0 : Int32))
def o_m_work_b92 (st : CS) (x1 : Int32) (x2 : Int32) (x3 : Int32) (x4 : Int32) (x5 : Int32) : Prop := (o_m_work_b93 st x1 x2 x3 x4 x5 (0 : Int32))
set_option maxHeartbeats 4000000 in
set_option maxRecDepth 100000 in
theorem k_m_work_b92 {p : Program} {l : Launch} {e : Env} {s : State} {m : MethodId} {args : Array Value} {below : List Frame} {meth : Method} {c : Code} {A : Nat → Prop} (g : Gm) (C : cX p s m args meth c A cX11_work (some .int) 14 RX11 wq_X11_work (gD g) vwCl (mty g) (mz g)) (st : CS) (x1 : Int32) (x2 : Int32) (x3 : Int32) (x4 : Int32) (x5 : Int32) (H : Heap) (locs : List Loc) (ls : Array Slot) (hI : cI (gD g) vwCl (mw g) A s st H locs) (hl : lv_has ls 14 [(0, .ref (gad g 0)), (1, .int x1), (2, .int x2), (3, .int x3), (4, .int x4), (5, .int x5)]) (hO : o_m_work_b92 st x1 x2 x3 x4 x5) (X : CS × Int32) (hF : X = m_work_b92 st x1 x2 x3 x4 x5) : W p l e rm_m_work s m args below meth c H locs 0 0 (MQ below (cQi (gD g) vwCl (mty g) (mw g) A X.1 X.2) args s 0 0 A) (F0 m 92 ls []) := by
  obtain ⟨hx, hb, hr, hml, hown, hts, hlocks, hK, hA, hZ, hzo⟩ := id C
  unfold m_work_b92 at hF
  unfold o_m_work_b92 at hO
  refine lv_iconst (v := (0 : Int32)) hx hb dX11_work_92 (by decide) ?_
  exact k_m_work_b93 g C st x1 x2 x3 x4 x5 (0 : Int32) H locs ls hI (lv_sub hl [0, 1, 2, 3, 4, 5] rfl) hO X hF
def m_work_b72 (st : CS) (x1 : Int32) (x2 : Int32) (x3 : Int32) (x4 : Int32) (y0 : Int32) : CS × Int32 := (if (y0 = 0) then (if (((x1 >>> ((4 : Int32) &&& 31)) &&& (1 : Int32)) = (1 : Int32)) then (m_work_b93 st x1 x2 x3 x4 y0 (1 : Int32)) else (m_work_b92 st x1 x2 x3 x4 y0)) else (m_work_b92 st x1 x2 x3 x4 y0))
def o_m_work_b72 (st : CS) (x1 : Int32) (x2 : Int32) (x3 : Int32) (x4 : Int32) (y0 : Int32) : Prop := (((y0 = 0) → (((((x1 >>> ((4 : Int32) &&& 31)) &&& (1 : Int32)) = (1 : Int32)) → (o_m_work_b93 st x1 x2 x3 x4 y0 (1 : Int32))) ∧ (¬ (((x1 >>> ((4 : Int32) &&& 31)) &&& (1 : Int32)) = (1 : Int32)) → (o_m_work_b92 st x1 x2 x3 x4 y0)))) ∧ (¬ (y0 = 0) → (o_m_work_b92 st x1 x2 x3 x4 y0)))
set_option maxHeartbeats 4000000 in
set_option maxRecDepth 100000 in
theorem k_m_work_b72 {p : Program} {l : Launch} {e : Env} {s : State} {m : MethodId} {args : Array Value} {below : List Frame} {meth : Method} {c : Code} {A : Nat → Prop} (g : Gm) (C : cX p s m args meth c A cX11_work (some .int) 14 RX11 wq_X11_work (gD g) vwCl (mty g) (mz g)) (st : CS) (x1 : Int32) (x2 : Int32) (x3 : Int32) (x4 : Int32) (y0 : Int32) (H : Heap) (locs : List Loc) (ls : Array Slot) (hI : cI (gD g) vwCl (mw g) A s st H locs) (hl : lv_has ls 14 [(0, .ref (gad g 0)), (1, .int x1), (2, .int x2), (3, .int x3), (4, .int x4)]) (hO : o_m_work_b72 st x1 x2 x3 x4 y0) (X : CS × Int32) (hF : X = m_work_b72 st x1 x2 x3 x4 y0) : W p l e rm_m_work s m args below meth c H locs 0 0 (MQ below (cQi (gD g) vwCl (mty g) (mw g) A X.1 X.2) args s 0 0 A) (F0 m 72 ls [.int y0]) := by
  obtain ⟨hx, hb, hr, hml, hown, hts, hlocks, hK, hA, hZ, hzo⟩ := id C
  unfold m_work_b72 at hF
  unfold o_m_work_b72 at hO
  refine lv_istore (lv' := [(5, .int y0), (0, .ref (gad g 0)), (1, .int x1), (2, .int x2), (3, .int x3), (4, .int x4)]) hx hb dX11_work_72 hl (by decide) rfl (fun ls hl => ?_)
  refine lv_iload hx hb dX11_work_74 (lv_at hl 0 rfl) ?_
  refine lv_if_ne (tgt := 92) hx hb dX11_work_76 (by decide) (fun c_76 => ?_) (fun c_76 => ?_)
  · have hF := hF.trans (if_neg c_76)
    have hO := hO.2 c_76
    exact k_m_work_b92 g C st x1 x2 x3 x4 y0 H locs ls hI (lv_sub hl [1, 2, 3, 4, 5, 0] rfl) hO X hF
  · have hF := hF.trans (if_pos c_76)
    have hO := hO.1 c_76
    refine lv_iload_n hx hb dX11_work_79 rfl (lv_at hl 2 rfl) ?_
    refine lv_iconst (v := (4 : Int32)) hx hb dX11_work_80 (by decide) ?_
    refine lv_ishr hx hb dX11_work_81 ?_
    refine lv_iconst (v := (1 : Int32)) hx hb dX11_work_82 (by decide) ?_
    refine lv_iand hx hb dX11_work_83 ?_
    refine lv_iconst (v := (1 : Int32)) hx hb dX11_work_84 (by decide) ?_
    refine lv_icmp_ne (tgt := 92) hx hb dX11_work_85 (by decide) (fun c_85 => ?_) (fun c_85 => ?_)
    · have hF := hF.trans (if_neg c_85)
      have hO := hO.2 c_85
      exact k_m_work_b92 g C st x1 x2 x3 x4 y0 H locs ls hI (lv_sub hl [1, 2, 3, 4, 5, 0] rfl) hO X hF
    · have hF := hF.trans (if_pos c_85)
      have hO := hO.1 c_85
      refine lv_iconst (v := (1 : Int32)) hx hb dX11_work_88 (by decide) ?_
      refine lv_goto (tgt := 93) hx hb dX11_work_89 (by decide) ?_
      exact k_m_work_b93 g C st x1 x2 x3 x4 y0 (1 : Int32) H locs ls hI (lv_sub hl [1, 2, 3, 4, 5, 0] rfl) hO X hF
def m_work_b57 (st : CS) (x1 : Int32) (x2 : Int32) (x3 : Int32) (x4 : Int32) : CS × Int32 := (if (((x1 >>> ((25 : Int32) &&& 31)) &&& (1 : Int32)) = (1 : Int32)) then (m_work_b72 st x1 x2 x3 x4 (1 : Int32)) else (m_work_b72 st x1 x2 x3 x4 (0 : Int32)))
def o_m_work_b57 (st : CS) (x1 : Int32) (x2 : Int32) (x3 : Int32) (x4 : Int32) : Prop := (((((x1 >>> ((25 : Int32) &&& 31)) &&& (1 : Int32)) = (1 : Int32)) → (o_m_work_b72 st x1 x2 x3 x4 (1 : Int32))) ∧ (¬ (((x1 >>> ((25 : Int32) &&& 31)) &&& (1 : Int32)) = (1 : Int32)) → (o_m_work_b72 st x1 x2 x3 x4 (0 : Int32))))
set_option maxHeartbeats 4000000 in
set_option maxRecDepth 100000 in
theorem k_m_work_b57 {p : Program} {l : Launch} {e : Env} {s : State} {m : MethodId} {args : Array Value} {below : List Frame} {meth : Method} {c : Code} {A : Nat → Prop} (g : Gm) (C : cX p s m args meth c A cX11_work (some .int) 14 RX11 wq_X11_work (gD g) vwCl (mty g) (mz g)) (st : CS) (x1 : Int32) (x2 : Int32) (x3 : Int32) (x4 : Int32) (H : Heap) (locs : List Loc) (ls : Array Slot) (hI : cI (gD g) vwCl (mw g) A s st H locs) (hl : lv_has ls 14 [(0, .ref (gad g 0)), (1, .int x1), (2, .int x2), (3, .int x3), (4, .int x4)]) (hO : o_m_work_b57 st x1 x2 x3 x4) (X : CS × Int32) (hF : X = m_work_b57 st x1 x2 x3 x4) : W p l e rm_m_work s m args below meth c H locs 0 0 (MQ below (cQi (gD g) vwCl (mty g) (mw g) A X.1 X.2) args s 0 0 A) (F0 m 57 ls []) := by
  obtain ⟨hx, hb, hr, hml, hown, hts, hlocks, hK, hA, hZ, hzo⟩ := id C
  unfold m_work_b57 at hF
  unfold o_m_work_b57 at hO
  refine lv_iload_n hx hb dX11_work_57 rfl (lv_at hl 1 rfl) ?_
  refine lv_bipush (v := (25 : Int32)) hx hb dX11_work_58 (by decide) ?_
  refine lv_ishr hx hb dX11_work_60 ?_
  refine lv_iconst (v := (1 : Int32)) hx hb dX11_work_61 (by decide) ?_
  refine lv_iand hx hb dX11_work_62 ?_
  refine lv_iconst (v := (1 : Int32)) hx hb dX11_work_63 (by decide) ?_
  refine lv_icmp_ne (tgt := 71) hx hb dX11_work_64 (by decide) (fun c_64 => ?_) (fun c_64 => ?_)
  · have hF := hF.trans (if_neg c_64)
    have hO := hO.2 c_64
    refine lv_iconst (v := (0 : Int32)) hx hb dX11_work_71 (by decide) ?_
    exact k_m_work_b72 g C st x1 x2 x3 x4 (0 : Int32) H locs ls hI (lv_sub hl [0, 1, 2, 3, 4] rfl) hO X hF
  · have hF := hF.trans (if_pos c_64)
    have hO := hO.1 c_64
    refine lv_iconst (v := (1 : Int32)) hx hb dX11_work_67 (by decide) ?_
    refine lv_goto (tgt := 72) hx hb dX11_work_68 (by decide) ?_
    exact k_m_work_b72 g C st x1 x2 x3 x4 (1 : Int32) H locs ls hI (lv_sub hl [0, 1, 2, 3, 4] rfl) hO X hF
def m_work_b41 (st : CS) (x1 : Int32) (x2 : Int32) (x3 : Int32) (y0 : Int32) : CS × Int32 := (if (y0 = 0) then (m_work_b57 st x1 x2 x3 y0) else (if (x3 = 0) then ((m_undefined st).1, (m_undefined st).2) else (m_work_b57 st x1 x2 x3 y0)))
def o_m_work_b41 (st : CS) (x1 : Int32) (x2 : Int32) (x3 : Int32) (y0 : Int32) : Prop := (((y0 = 0) → (o_m_work_b57 st x1 x2 x3 y0)) ∧ (¬ (y0 = 0) → (((x3 = 0) → ((o_m_undefined st) ∧ True)) ∧ (¬ (x3 = 0) → (o_m_work_b57 st x1 x2 x3 y0)))))
set_option maxHeartbeats 4000000 in
set_option maxRecDepth 100000 in
theorem k_m_work_b41 {p : Program} {l : Launch} {e : Env} {s : State} {m : MethodId} {args : Array Value} {below : List Frame} {meth : Method} {c : Code} {A : Nat → Prop} (g : Gm) (C : cX p s m args meth c A cX11_work (some .int) 14 RX11 wq_X11_work (gD g) vwCl (mty g) (mz g)) (st : CS) (x1 : Int32) (x2 : Int32) (x3 : Int32) (y0 : Int32) (H : Heap) (locs : List Loc) (ls : Array Slot) (hI : cI (gD g) vwCl (mw g) A s st H locs) (hl : lv_has ls 14 [(0, .ref (gad g 0)), (1, .int x1), (2, .int x2), (3, .int x3)]) (hO : o_m_work_b41 st x1 x2 x3 y0) (X : CS × Int32) (hF : X = m_work_b41 st x1 x2 x3 y0) : W p l e rm_m_work s m args below meth c H locs 0 0 (MQ below (cQi (gD g) vwCl (mty g) (mw g) A X.1 X.2) args s 0 0 A) (F0 m 41 ls [.int y0]) := by
  obtain ⟨hx, hb, hr, hml, hown, hts, hlocks, hK, hA, hZ, hzo⟩ := id C
  unfold m_work_b41 at hF
  unfold o_m_work_b41 at hO
  refine lv_istore (lv' := [(4, .int y0), (0, .ref (gad g 0)), (1, .int x1), (2, .int x2), (3, .int x3)]) hx hb dX11_work_41 hl (by decide) rfl (fun ls hl => ?_)
  refine lv_iload hx hb dX11_work_43 (lv_at hl 0 rfl) ?_
  refine lv_if_eq (tgt := 57) hx hb dX11_work_45 (by decide) (fun c_45 => ?_) (fun c_45 => ?_)
  · have hF := hF.trans (if_pos c_45)
    have hO := hO.1 c_45
    exact k_m_work_b57 g C st x1 x2 x3 y0 H locs ls hI (lv_sub hl [1, 2, 3, 4, 0] rfl) hO X hF
  · have hF := hF.trans (if_neg c_45)
    have hO := hO.2 c_45
    refine lv_iload_n hx hb dX11_work_48 rfl (lv_at hl 4 rfl) ?_
    refine lv_if_ne (tgt := 57) hx hb dX11_work_49 (by decide) (fun c_49 => ?_) (fun c_49 => ?_)
    · have hF := hF.trans (if_neg c_49)
      have hO := hO.2 c_49
      exact k_m_work_b57 g C st x1 x2 x3 y0 H locs ls hI (lv_sub hl [1, 2, 3, 4, 0] rfl) hO X hF
    · have hF := hF.trans (if_pos c_49)
      have hO := hO.1 c_49
      refine lv_aload_n hx hb dX11_work_52 rfl (lv_at hl 1 rfl) ?_
      have hq_53_0 := hO.1
      have hO := hO.2
      refine cx_Vi (As := []) (rest := []) C (c_m_undefined l g st  hq_53_0) (cwV 0 hts (gd_V _ mw834 mw835 mw836 mw3 mw837) rfl rfl rfl yd_yX11_undefined ⟨Nat.le_of_ble_eq_true rfl, Nat.le_of_ble_eq_true rfl⟩) (va_recv hK hI.1 (ci := 11) (q0 := 0) rfl rfl) hI rfl hl.1 rfl (Nat.le_of_ble_eq_true rfl) dX11_work_53 (fun H locs hI => ?_)
      exact cx_iret C hI (congrArg Prod.fst hF) (congrArg Prod.snd hF) dX11_work_56
def m_work_b40 (st : CS) (x1 : Int32) (x2 : Int32) (x3 : Int32) : CS × Int32 := (m_work_b41 st x1 x2 x3 (0 : Int32))
def o_m_work_b40 (st : CS) (x1 : Int32) (x2 : Int32) (x3 : Int32) : Prop := (o_m_work_b41 st x1 x2 x3 (0 : Int32))
set_option maxHeartbeats 4000000 in
set_option maxRecDepth 100000 in
theorem k_m_work_b40 {p : Program} {l : Launch} {e : Env} {s : State} {m : MethodId} {args : Array Value} {below : List Frame} {meth : Method} {c : Code} {A : Nat → Prop} (g : Gm) (C : cX p s m args meth c A cX11_work (some .int) 14 RX11 wq_X11_work (gD g) vwCl (mty g) (mz g)) (st : CS) (x1 : Int32) (x2 : Int32) (x3 : Int32) (H : Heap) (locs : List Loc) (ls : Array Slot) (hI : cI (gD g) vwCl (mw g) A s st H locs) (hl : lv_has ls 14 [(0, .ref (gad g 0)), (1, .int x1), (2, .int x2), (3, .int x3)]) (hO : o_m_work_b40 st x1 x2 x3) (X : CS × Int32) (hF : X = m_work_b40 st x1 x2 x3) : W p l e rm_m_work s m args below meth c H locs 0 0 (MQ below (cQi (gD g) vwCl (mty g) (mw g) A X.1 X.2) args s 0 0 A) (F0 m 40 ls []) := by
  obtain ⟨hx, hb, hr, hml, hown, hts, hlocks, hK, hA, hZ, hzo⟩ := id C
  unfold m_work_b40 at hF
  unfold o_m_work_b40 at hO
  refine lv_iconst (v := (0 : Int32)) hx hb dX11_work_40 (by decide) ?_
  exact k_m_work_b41 g C st x1 x2 x3 (0 : Int32) H locs ls hI (lv_sub hl [0, 1, 2, 3] rfl) hO X hF
def m_work_b23 (st : CS) (x1 : Int32) (x2 : Int32) (y0 : Int32) : CS × Int32 := (if (x2 ≤ (7 : Int32)) then (m_work_b40 st x1 x2 y0) else (if ((12 : Int32) ≤ x2) then (m_work_b40 st x1 x2 y0) else (m_work_b41 st x1 x2 y0 (1 : Int32))))
def o_m_work_b23 (st : CS) (x1 : Int32) (x2 : Int32) (y0 : Int32) : Prop := (((x2 ≤ (7 : Int32)) → (o_m_work_b40 st x1 x2 y0)) ∧ (¬ (x2 ≤ (7 : Int32)) → ((((12 : Int32) ≤ x2) → (o_m_work_b40 st x1 x2 y0)) ∧ (¬ ((12 : Int32) ≤ x2) → (o_m_work_b41 st x1 x2 y0 (1 : Int32))))))
set_option maxHeartbeats 4000000 in
set_option maxRecDepth 100000 in
theorem k_m_work_b23 {p : Program} {l : Launch} {e : Env} {s : State} {m : MethodId} {args : Array Value} {below : List Frame} {meth : Method} {c : Code} {A : Nat → Prop} (g : Gm) (C : cX p s m args meth c A cX11_work (some .int) 14 RX11 wq_X11_work (gD g) vwCl (mty g) (mz g)) (st : CS) (x1 : Int32) (x2 : Int32) (y0 : Int32) (H : Heap) (locs : List Loc) (ls : Array Slot) (hI : cI (gD g) vwCl (mw g) A s st H locs) (hl : lv_has ls 14 [(0, .ref (gad g 0)), (1, .int x1), (2, .int x2)]) (hO : o_m_work_b23 st x1 x2 y0) (X : CS × Int32) (hF : X = m_work_b23 st x1 x2 y0) : W p l e rm_m_work s m args below meth c H locs 0 0 (MQ below (cQi (gD g) vwCl (mty g) (mw g) A X.1 X.2) args s 0 0 A) (F0 m 23 ls [.int y0]) := by
  obtain ⟨hx, hb, hr, hml, hown, hts, hlocks, hK, hA, hZ, hzo⟩ := id C
  unfold m_work_b23 at hF
  unfold o_m_work_b23 at hO
  refine lv_istore_n (lv' := [(3, .int y0), (0, .ref (gad g 0)), (1, .int x1), (2, .int x2)]) hx hb dX11_work_23 rfl hl (by decide) rfl (fun ls hl => ?_)
  refine lv_iload_n hx hb dX11_work_24 rfl (lv_at hl 3 rfl) ?_
  refine lv_bipush (v := (7 : Int32)) hx hb dX11_work_25 (by decide) ?_
  refine lv_icmp_le (tgt := 40) hx hb dX11_work_27 (by decide) (fun c_27 => ?_) (fun c_27 => ?_)
  · have hF := hF.trans (if_pos c_27)
    have hO := hO.1 c_27
    exact k_m_work_b40 g C st x1 x2 y0 H locs ls hI (lv_sub hl [1, 2, 3, 0] rfl) hO X hF
  · have hF := hF.trans (if_neg c_27)
    have hO := hO.2 c_27
    refine lv_iload_n hx hb dX11_work_30 rfl (lv_at hl 3 rfl) ?_
    refine lv_bipush (v := (12 : Int32)) hx hb dX11_work_31 (by decide) ?_
    refine lv_icmp_ge (tgt := 40) hx hb dX11_work_33 (by decide) (fun c_33 => ?_) (fun c_33 => ?_)
    · have hF := hF.trans (if_pos c_33)
      have hO := hO.1 c_33
      exact k_m_work_b40 g C st x1 x2 y0 H locs ls hI (lv_sub hl [1, 2, 3, 0] rfl) hO X hF
    · have hF := hF.trans (if_neg c_33)
      have hO := hO.2 c_33
      refine lv_iconst (v := (1 : Int32)) hx hb dX11_work_36 (by decide) ?_
      refine lv_goto (tgt := 41) hx hb dX11_work_37 (by decide) ?_
      exact k_m_work_b41 g C st x1 x2 y0 (1 : Int32) H locs ls hI (lv_sub hl [1, 2, 3, 0] rfl) hO X hF
def m_work (st : CS) (x1 : Int32) : CS × Int32 := (if (((x1 >>> ((20 : Int32) &&& 31)) &&& (1 : Int32)) = (1 : Int32)) then (m_work_b23 st x1 ((x1 >>> ((21 : Int32) &&& 31)) &&& (15 : Int32)) (1 : Int32)) else (m_work_b23 st x1 ((x1 >>> ((21 : Int32) &&& 31)) &&& (15 : Int32)) (0 : Int32)))
def o_m_work (st : CS) (x1 : Int32) : Prop := (((((x1 >>> ((20 : Int32) &&& 31)) &&& (1 : Int32)) = (1 : Int32)) → (o_m_work_b23 st x1 ((x1 >>> ((21 : Int32) &&& 31)) &&& (15 : Int32)) (1 : Int32))) ∧ (¬ (((x1 >>> ((20 : Int32) &&& 31)) &&& (1 : Int32)) = (1 : Int32)) → (o_m_work_b23 st x1 ((x1 >>> ((21 : Int32) &&& 31)) &&& (15 : Int32)) (0 : Int32))))
set_option maxHeartbeats 4000000 in
set_option maxRecDepth 100000 in
theorem k_m_work {p : Program} {l : Launch} {e : Env} {s : State} {m : MethodId} {args : Array Value} {below : List Frame} {meth : Method} {c : Code} {A : Nat → Prop} (g : Gm) (C : cX p s m args meth c A cX11_work (some .int) 14 RX11 wq_X11_work (gD g) vwCl (mty g) (mz g)) (st : CS) (x1 : Int32) (H : Heap) (locs : List Loc) (ls : Array Slot) (hI : cI (gD g) vwCl (mw g) A s st H locs) (hl : lv_has ls 14 [(0, .ref (gad g 0)), (1, .int x1)]) (hO : o_m_work st x1) (X : CS × Int32) (hF : X = m_work st x1) : W p l e rm_m_work s m args below meth c H locs 0 0 (MQ below (cQi (gD g) vwCl (mty g) (mw g) A X.1 X.2) args s 0 0 A) (F0 m 0 ls []) := by
  obtain ⟨hx, hb, hr, hml, hown, hts, hlocks, hK, hA, hZ, hzo⟩ := id C
  unfold m_work at hF
  unfold o_m_work at hO
  refine lv_iload_n hx hb dX11_work_0 rfl (lv_at hl 1 rfl) ?_
  refine lv_bipush (v := (21 : Int32)) hx hb dX11_work_1 (by decide) ?_
  refine lv_ishr hx hb dX11_work_3 ?_
  refine lv_bipush (v := (15 : Int32)) hx hb dX11_work_4 (by decide) ?_
  refine lv_iand hx hb dX11_work_6 ?_
  refine lv_istore_n (lv' := [(2, .int ((x1 >>> ((21 : Int32) &&& 31)) &&& (15 : Int32))), (0, .ref (gad g 0)), (1, .int x1)]) hx hb dX11_work_7 rfl hl (by decide) rfl (fun ls hl => ?_)
  refine lv_iload_n hx hb dX11_work_8 rfl (lv_at hl 2 rfl) ?_
  refine lv_bipush (v := (20 : Int32)) hx hb dX11_work_9 (by decide) ?_
  refine lv_ishr hx hb dX11_work_11 ?_
  refine lv_iconst (v := (1 : Int32)) hx hb dX11_work_12 (by decide) ?_
  refine lv_iand hx hb dX11_work_13 ?_
  refine lv_iconst (v := (1 : Int32)) hx hb dX11_work_14 (by decide) ?_
  refine lv_icmp_ne (tgt := 22) hx hb dX11_work_15 (by decide) (fun c_15 => ?_) (fun c_15 => ?_)
  · have hF := hF.trans (if_neg c_15)
    have hO := hO.2 c_15
    refine lv_iconst (v := (0 : Int32)) hx hb dX11_work_22 (by decide) ?_
    exact k_m_work_b23 g C st x1 ((x1 >>> ((21 : Int32) &&& 31)) &&& (15 : Int32)) (0 : Int32) H locs ls hI (lv_sub hl [1, 2, 0] rfl) hO X hF
  · have hF := hF.trans (if_pos c_15)
    have hO := hO.1 c_15
    refine lv_iconst (v := (1 : Int32)) hx hb dX11_work_18 (by decide) ?_
    refine lv_goto (tgt := 23) hx hb dX11_work_19 (by decide) ?_
    exact k_m_work_b23 g C st x1 ((x1 >>> ((21 : Int32) &&& 31)) &&& (15 : Int32)) (1 : Int32) H locs ls hI (lv_sub hl [1, 2, 0] rfl) hO X hF
set_option maxHeartbeats 4000000 in
set_option maxRecDepth 100000 in
theorem c_m_work (l : Launch) (g : Gm) (st : CS) (x1 : Int32) (hO : o_m_work st x1) : Mi l yX11_work wq_X11_work rm_m_work (gD g) vwCl (mty g) (mw g) (mz g) [.ref (gad g 0), .int x1] st (m_work st x1).1 (m_work st x1).2 := by
  intro sz
  refine Met.ofW (cc := cX11_work) (maxL := 14) (ret := (some .int)) (by decide) rfl ?_
  intro p e s m args below meth c s₁ B hml hv
  obtain ⟨rfl, hsz, hP, hK, hD0, hZ⟩ := hv
  subst hsz
  have hl := lv_entry ([.ref (gad g 0), .int x1]) (n := 14) (Nat.le_of_ble_eq_true rfl)
  rw [lg_entry_eq]
  generalize (lg_sl ([.ref (gad g 0), .int x1]) ++ List.replicate (14 - (lg_sl ([.ref (gad g 0), .int x1])).length) Slot.unset).toArray = ls at hl ⊢
  exact k_m_work g ⟨B.exec, B.bytes, B.returns, hml, findClass_of_methodNamed B.named, atoms_spec (ws := wq_X11_work) B.pre, B.notSynchronized, hK, fun q h => Or.inr h, hZ, mz_ok g⟩ st x1 _ _ ls ⟨hP, hD0.self, va_S.rf⟩ hl hO _ rfl
abbrev wq_X11_transfer : List Cond := .code yX11_transfer cX11_transfer 17 (some .int) :: wAll
theorem yd_yX11_transfer : yX11_transfer.cls = RX11 ∧ yX11_transfer.cls ≠ "java/lang/invoke/MethodHandle" ∧ yX11_transfer.cls ≠ "java/lang/invoke/VarHandle" ∧ (parseMethodDescriptor yX11_transfer.desc).map (fun d => d.parameters.length) = some 1 := by decide +kernel
abbrev rm_m_transfer : Room := { frames := 4, cells := 0, slots := 0, locals := 89 }
def m_transfer_b529 (st : CS) (x7 : Int32) (x11 : Int32) (x15 : Int32) : CS × Int32 := (if (x15 = 0) then (st, (4 : Int32)) else ((m_give st (m_mode st) x7 x11), (4 : Int32)))
def o_m_transfer_b529 (st : CS) (x7 : Int32) (x11 : Int32) (x15 : Int32) : Prop := (((x15 = 0) → True) ∧ (¬ (x15 = 0) → ((o_m_give st (m_mode st) x7 x11) ∧ True)))
set_option maxHeartbeats 4000000 in
set_option maxRecDepth 100000 in
theorem k_m_transfer_b529 {p : Program} {l : Launch} {e : Env} {s : State} {m : MethodId} {args : Array Value} {below : List Frame} {meth : Method} {c : Code} {A : Nat → Prop} (g : Gm) (C : cX p s m args meth c A cX11_transfer (some .int) 17 RX11 wq_X11_transfer (gD g) vwCl (mty g) (mz g)) (st : CS) (x7 : Int32) (x11 : Int32) (x15 : Int32) (H : Heap) (locs : List Loc) (ls : Array Slot) (hI : cI (gD g) vwCl (mw g) A s st H locs) (hl : lv_has ls 17 [(0, .ref (gad g 0)), (7, .int x7), (11, .int x11), (15, .int x15)]) (hO : o_m_transfer_b529 st x7 x11 x15) (X : CS × Int32) (hF : X = m_transfer_b529 st x7 x11 x15) : W p l e rm_m_transfer s m args below meth c H locs 0 0 (MQ below (cQi (gD g) vwCl (mty g) (mw g) A X.1 X.2) args s 0 0 A) (F0 m 529 ls []) := by
  obtain ⟨hx, hb, hr, hml, hown, hts, hlocks, hK, hA, hZ, hzo⟩ := id C
  unfold m_transfer_b529 at hF
  unfold o_m_transfer_b529 at hO
  refine lv_iload hx hb dX11_transfer_529 (lv_at hl 3 rfl) ?_
  refine lv_if_eq (tgt := 546) hx hb dX11_transfer_531 (by decide) (fun c_531 => ?_) (fun c_531 => ?_)
  · have hF := hF.trans (if_pos c_531)
    have hO := hO.1 c_531
    refine lv_iconst (v := (4 : Int32)) hx hb dX11_transfer_546 (by decide) ?_
    exact cx_iret C hI (congrArg Prod.fst hF) (congrArg Prod.snd hF) dX11_transfer_547
  · have hF := hF.trans (if_neg c_531)
    have hO := hO.2 c_531
    refine lv_aload_n hx hb dX11_transfer_534 rfl (lv_at hl 0 rfl) ?_
    refine lv_aload_n hx hb dX11_transfer_535 rfl (lv_at hl 0 rfl) ?_
    refine cx_Vi (As := []) (rest := [.ref (gad g 0)]) C (c_m_mode l g st ) (cwV 0 hts (gd_V _ mw796 mw797 mw798 mw3 mw799) rfl rfl rfl yd_yX11_mode ⟨Nat.le_of_ble_eq_true rfl, Nat.le_of_ble_eq_true rfl⟩) (va_recv hK hI.1 (ci := 11) (q0 := 0) rfl rfl) hI rfl hl.1 rfl (Nat.le_of_ble_eq_true rfl) dX11_transfer_536 (fun H locs hI => ?_)
    refine lv_iload hx hb dX11_transfer_539 (lv_at hl 1 rfl) ?_
    refine lv_iload hx hb dX11_transfer_541 (lv_at hl 2 rfl) ?_
    have hq_543_0 := hO.1
    have hO := hO.2
    refine cx_Vv (As := [.int (m_mode st), .int x7, .int x11]) (rest := []) C (c_m_give l g st (m_mode st) x7 x11 hq_543_0) (cwV 3 hts (gd_V _ mw777 mw778 mw779 mw3 mw780) rfl rfl rfl yd_yX11_give ⟨Nat.le_of_ble_eq_true rfl, Nat.le_of_ble_eq_true rfl⟩) (va_recv hK hI.1 (ci := 11) (q0 := 0) rfl rfl) hI rfl hl.1 rfl (Nat.le_of_ble_eq_true rfl) dX11_transfer_543 (fun H locs hI => ?_)
    refine lv_iconst (v := (4 : Int32)) hx hb dX11_transfer_546 (by decide) ?_
    exact cx_iret C hI (congrArg Prod.fst hF) (congrArg Prod.snd hF) dX11_transfer_547
def m_transfer_b528 (st : CS) (x7 : Int32) (x11 : Int32) (x15 : Int32) (y1 : Int32) (y0 : Int32) : CS × Int32 := (m_transfer_b529 (sA st 5 (upd (gA st 5) y1.toNatClampNeg y0)) x7 x11 x15)
def o_m_transfer_b528 (st : CS) (x7 : Int32) (x11 : Int32) (x15 : Int32) (y1 : Int32) (y0 : Int32) : Prop := (vp_in y1 16384 ∧ (o_m_transfer_b529 (sA st 5 (upd (gA st 5) y1.toNatClampNeg y0)) x7 x11 x15))
set_option maxHeartbeats 4000000 in
set_option maxRecDepth 100000 in
theorem k_m_transfer_b528 {p : Program} {l : Launch} {e : Env} {s : State} {m : MethodId} {args : Array Value} {below : List Frame} {meth : Method} {c : Code} {A : Nat → Prop} (g : Gm) (C : cX p s m args meth c A cX11_transfer (some .int) 17 RX11 wq_X11_transfer (gD g) vwCl (mty g) (mz g)) (st : CS) (x7 : Int32) (x11 : Int32) (x15 : Int32) (y1 : Int32) (y0 : Int32) (H : Heap) (locs : List Loc) (ls : Array Slot) (hI : cI (gD g) vwCl (mw g) A s st H locs) (hl : lv_has ls 17 [(0, .ref (gad g 0)), (7, .int x7), (11, .int x11), (15, .int x15)]) (hO : o_m_transfer_b528 st x7 x11 x15 y1 y0) (X : CS × Int32) (hF : X = m_transfer_b528 st x7 x11 x15 y1 y0) : W p l e rm_m_transfer s m args below meth c H locs 0 0 (MQ below (cQi (gD g) vwCl (mty g) (mw g) A X.1 X.2) args s 0 0 A) (F0 m 528 ls [.int y0, .int y1, .ref (gad g 6)]) := by
  obtain ⟨hx, hb, hr, hml, hown, hts, hlocks, hK, hA, hZ, hzo⟩ := id C
  unfold m_transfer_b528 at hF
  unfold o_m_transfer_b528 at hO
  have hq_528_0 := hO.1
  have hO := hO.2
  refine va_iast (f := (gA st 5)) hx hb hK hI.1 hI.2.1 hI.2.2 6 5 rfl rfl hq_528_0 dX11_transfer_528 (fun H locs hP hD hS => ?_)
  have hI : cI (gD g) vwCl (mw g) A s (sA st 5 (upd (gA st 5) y1.toNatClampNeg y0)) H locs := ⟨hP, hD, hS⟩
  exact k_m_transfer_b529 g C (sA st 5 (upd (gA st 5) y1.toNatClampNeg y0)) x7 x11 x15 H locs ls hI (lv_sub hl [0, 1, 2, 3] rfl) hO X hF
def m_transfer_b483 (st : CS) (x7 : Int32) (x11 : Int32) (x15 : Int32) : CS × Int32 := (m_transfer_b529 st x7 x11 x15)
def o_m_transfer_b483 (st : CS) (x7 : Int32) (x11 : Int32) (x15 : Int32) : Prop := (o_m_transfer_b529 st x7 x11 x15)
set_option maxHeartbeats 4000000 in
set_option maxRecDepth 100000 in
theorem k_m_transfer_b483 {p : Program} {l : Launch} {e : Env} {s : State} {m : MethodId} {args : Array Value} {below : List Frame} {meth : Method} {c : Code} {A : Nat → Prop} (g : Gm) (C : cX p s m args meth c A cX11_transfer (some .int) 17 RX11 wq_X11_transfer (gD g) vwCl (mty g) (mz g)) (st : CS) (x7 : Int32) (x11 : Int32) (x15 : Int32) (H : Heap) (locs : List Loc) (ls : Array Slot) (hI : cI (gD g) vwCl (mw g) A s st H locs) (hl : lv_has ls 17 [(0, .ref (gad g 0)), (7, .int x7), (11, .int x11), (15, .int x15)]) (hO : o_m_transfer_b483 st x7 x11 x15) (X : CS × Int32) (hF : X = m_transfer_b483 st x7 x11 x15) : W p l e rm_m_transfer s m args below meth c H locs 0 0 (MQ below (cQi (gD g) vwCl (mty g) (mw g) A X.1 X.2) args s 0 0 A) (F0 m 483 ls []) := by
  obtain ⟨hx, hb, hr, hml, hown, hts, hlocks, hK, hA, hZ, hzo⟩ := id C
  unfold m_transfer_b483 at hF
  unfold o_m_transfer_b483 at hO
  refine lv_goto (tgt := 529) hx hb dX11_transfer_483 (by decide) ?_
  exact k_m_transfer_b529 g C st x7 x11 x15 H locs ls hI (lv_sub hl [0, 1, 2, 3] rfl) hO X hF
def m_transfer_b480 (st : CS) (x7 : Int32) (x11 : Int32) (x15 : Int32) (y1 : Int32) (y0 : Int32) : CS × Int32 := (m_transfer_b483 (m_writeFar st y1 y0) x7 x11 x15)
def o_m_transfer_b480 (st : CS) (x7 : Int32) (x11 : Int32) (x15 : Int32) (y1 : Int32) (y0 : Int32) : Prop := ((o_m_writeFar st y1 y0) ∧ (o_m_transfer_b483 (m_writeFar st y1 y0) x7 x11 x15))
set_option maxHeartbeats 4000000 in
set_option maxRecDepth 100000 in
theorem k_m_transfer_b480 {p : Program} {l : Launch} {e : Env} {s : State} {m : MethodId} {args : Array Value} {below : List Frame} {meth : Method} {c : Code} {A : Nat → Prop} (g : Gm) (C : cX p s m args meth c A cX11_transfer (some .int) 17 RX11 wq_X11_transfer (gD g) vwCl (mty g) (mz g)) (st : CS) (x7 : Int32) (x11 : Int32) (x15 : Int32) (y1 : Int32) (y0 : Int32) (H : Heap) (locs : List Loc) (ls : Array Slot) (hI : cI (gD g) vwCl (mw g) A s st H locs) (hl : lv_has ls 17 [(0, .ref (gad g 0)), (7, .int x7), (11, .int x11), (15, .int x15)]) (hO : o_m_transfer_b480 st x7 x11 x15 y1 y0) (X : CS × Int32) (hF : X = m_transfer_b480 st x7 x11 x15 y1 y0) : W p l e rm_m_transfer s m args below meth c H locs 0 0 (MQ below (cQi (gD g) vwCl (mty g) (mw g) A X.1 X.2) args s 0 0 A) (F0 m 480 ls [.int y0, .int y1, .ref (gad g 0)]) := by
  obtain ⟨hx, hb, hr, hml, hown, hts, hlocks, hK, hA, hZ, hzo⟩ := id C
  unfold m_transfer_b480 at hF
  unfold o_m_transfer_b480 at hO
  have hq_480_0 := hO.1
  have hO := hO.2
  refine cx_Vv (As := [.int y1, .int y0]) (rest := []) C (c_m_writeFar l g st y1 y0 hq_480_0) (cwV 2 hts (gd_V _ mw889 mw890 mw891 mw3 mw892) rfl rfl rfl yd_yX11_writeFar ⟨Nat.le_of_ble_eq_true rfl, Nat.le_of_ble_eq_true rfl⟩) (va_recv hK hI.1 (ci := 11) (q0 := 0) rfl rfl) hI rfl hl.1 rfl (Nat.le_of_ble_eq_true rfl) dX11_transfer_480 (fun H locs hI => ?_)
  exact k_m_transfer_b483 g C (m_writeFar st y1 y0) x7 x11 x15 H locs ls hI (lv_sub hl [0, 1, 2, 3] rfl) hO X hF
def m_transfer_b449 (st : CS) (x5 : Int32) (x7 : Int32) (x11 : Int32) (x12 : Int32) (x13 : Int32) (x14 : Int32) (x15 : Int32) (y0 : Int32) : CS × Int32 := (if (x13 = (-1 : Int32)) then (if (x5 = 0) then (m_transfer_b480 st x7 x11 x15 x12 y0) else (m_transfer_b480 st x7 x11 x15 x12 ((y0 &&& (255 : Int32)) * (16843009 : Int32)))) else (if (x5 = 0) then (m_transfer_b528 st x7 x11 x15 x13 y0) else (m_transfer_b528 st x7 x11 x15 x13 ((((gA st 5) x13.toNatClampNeg) &&& (((255 : Int32) <<< (x14 &&& 31)) ^^^ (-1 : Int32))) ||| ((y0 &&& (255 : Int32)) <<< (x14 &&& 31))))))
def o_m_transfer_b449 (st : CS) (x5 : Int32) (x7 : Int32) (x11 : Int32) (x12 : Int32) (x13 : Int32) (x14 : Int32) (x15 : Int32) (y0 : Int32) : Prop := (((x13 = (-1 : Int32)) → (((x5 = 0) → (o_m_transfer_b480 st x7 x11 x15 x12 y0)) ∧ (¬ (x5 = 0) → (o_m_transfer_b480 st x7 x11 x15 x12 ((y0 &&& (255 : Int32)) * (16843009 : Int32)))))) ∧ (¬ (x13 = (-1 : Int32)) → (((x5 = 0) → (o_m_transfer_b528 st x7 x11 x15 x13 y0)) ∧ (¬ (x5 = 0) → (vp_in x13 16384 ∧ (o_m_transfer_b528 st x7 x11 x15 x13 ((((gA st 5) x13.toNatClampNeg) &&& (((255 : Int32) <<< (x14 &&& 31)) ^^^ (-1 : Int32))) ||| ((y0 &&& (255 : Int32)) <<< (x14 &&& 31)))))))))
set_option maxHeartbeats 4000000 in
set_option maxRecDepth 100000 in
theorem k_m_transfer_b449 {p : Program} {l : Launch} {e : Env} {s : State} {m : MethodId} {args : Array Value} {below : List Frame} {meth : Method} {c : Code} {A : Nat → Prop} (g : Gm) (C : cX p s m args meth c A cX11_transfer (some .int) 17 RX11 wq_X11_transfer (gD g) vwCl (mty g) (mz g)) (st : CS) (x5 : Int32) (x7 : Int32) (x11 : Int32) (x12 : Int32) (x13 : Int32) (x14 : Int32) (x15 : Int32) (y0 : Int32) (H : Heap) (locs : List Loc) (ls : Array Slot) (hI : cI (gD g) vwCl (mw g) A s st H locs) (hl : lv_has ls 17 [(0, .ref (gad g 0)), (5, .int x5), (7, .int x7), (11, .int x11), (12, .int x12), (13, .int x13), (14, .int x14), (15, .int x15)]) (hO : o_m_transfer_b449 st x5 x7 x11 x12 x13 x14 x15 y0) (X : CS × Int32) (hF : X = m_transfer_b449 st x5 x7 x11 x12 x13 x14 x15 y0) : W p l e rm_m_transfer s m args below meth c H locs 0 0 (MQ below (cQi (gD g) vwCl (mty g) (mw g) A X.1 X.2) args s 0 0 A) (F0 m 449 ls [.int y0]) := by
  obtain ⟨hx, hb, hr, hml, hown, hts, hlocks, hK, hA, hZ, hzo⟩ := id C
  unfold m_transfer_b449 at hF
  unfold o_m_transfer_b449 at hO
  refine lv_istore (lv' := [(16, .int y0), (0, .ref (gad g 0)), (5, .int x5), (7, .int x7), (11, .int x11), (12, .int x12), (13, .int x13), (14, .int x14), (15, .int x15)]) hx hb dX11_transfer_449 hl (by decide) rfl (fun ls hl => ?_)
  refine lv_iload hx hb dX11_transfer_451 (lv_at hl 6 rfl) ?_
  refine lv_iconst (v := (-1 : Int32)) hx hb dX11_transfer_453 (by decide) ?_
  refine lv_icmp_ne (tgt := 486) hx hb dX11_transfer_454 (by decide) (fun c_454 => ?_) (fun c_454 => ?_)
  · have hF := hF.trans (if_neg c_454)
    have hO := hO.2 c_454
    refine lv_aload_n hx hb dX11_transfer_486 rfl (lv_at hl 1 rfl) ?_
    refine va_get (D := gD g) (ci := 11) (C := RX11) (T := TX11) (N := 50) (v := .ref (gad g 6)) hx hb hts (fun w h => List.mem_cons_of_mem _ (isX110 w h)) hown hK hI.1 0 rfl rfl 10 (by decide) (hts _ (List.mem_cons_of_mem _ mw190)) (fun _ h9 => h9) rfl dX11_transfer_487 ?_
    refine lv_iload hx hb dX11_transfer_490 (lv_at hl 6 rfl) ?_
    refine lv_iload hx hb dX11_transfer_492 (lv_at hl 2 rfl) ?_
    refine lv_if_eq (tgt := 526) hx hb dX11_transfer_494 (by decide) (fun c_494 => ?_) (fun c_494 => ?_)
    · have hF := hF.trans (if_pos c_494)
      have hO := hO.1 c_494
      refine lv_iload hx hb dX11_transfer_526 (lv_at hl 0 rfl) ?_
      exact k_m_transfer_b528 g C st x7 x11 x15 x13 y0 H locs ls hI (lv_sub hl [1, 3, 4, 8] rfl) hO X hF
    · have hF := hF.trans (if_neg c_494)
      have hO := hO.2 c_494
      refine lv_aload_n hx hb dX11_transfer_497 rfl (lv_at hl 1 rfl) ?_
      refine va_get (D := gD g) (ci := 11) (C := RX11) (T := TX11) (N := 50) (v := .ref (gad g 6)) hx hb hts (fun w h => List.mem_cons_of_mem _ (isX110 w h)) hown hK hI.1 0 rfl rfl 10 (by decide) (hts _ (List.mem_cons_of_mem _ mw190)) (fun _ h9 => h9) rfl dX11_transfer_498 ?_
      refine lv_iload hx hb dX11_transfer_501 (lv_at hl 6 rfl) ?_
      have hq_503_0 := hO.1
      have hO := hO.2
      refine va_iald (f := (gA st 5)) hx hb hK hI.1 6 5 rfl rfl hq_503_0 dX11_transfer_503 ?_
      refine lv_sipush (v := (255 : Int32)) hx hb dX11_transfer_504 (by decide) ?_
      refine lv_iload hx hb dX11_transfer_507 (lv_at hl 7 rfl) ?_
      refine lv_ishl hx hb dX11_transfer_509 ?_
      refine lv_iconst (v := (-1 : Int32)) hx hb dX11_transfer_510 (by decide) ?_
      refine lv_ixor hx hb dX11_transfer_511 ?_
      refine lv_iand hx hb dX11_transfer_512 ?_
      refine lv_iload hx hb dX11_transfer_513 (lv_at hl 0 rfl) ?_
      refine lv_sipush (v := (255 : Int32)) hx hb dX11_transfer_515 (by decide) ?_
      refine lv_iand hx hb dX11_transfer_518 ?_
      refine lv_iload hx hb dX11_transfer_519 (lv_at hl 7 rfl) ?_
      refine lv_ishl hx hb dX11_transfer_521 ?_
      refine lv_ior hx hb dX11_transfer_522 ?_
      refine lv_goto (tgt := 528) hx hb dX11_transfer_523 (by decide) ?_
      exact k_m_transfer_b528 g C st x7 x11 x15 x13 ((((gA st 5) x13.toNatClampNeg) &&& (((255 : Int32) <<< (x14 &&& 31)) ^^^ (-1 : Int32))) ||| ((y0 &&& (255 : Int32)) <<< (x14 &&& 31))) H locs ls hI (lv_sub hl [1, 3, 4, 8] rfl) hO X hF
  · have hF := hF.trans (if_pos c_454)
    have hO := hO.1 c_454
    refine lv_aload_n hx hb dX11_transfer_457 rfl (lv_at hl 1 rfl) ?_
    refine lv_iload hx hb dX11_transfer_458 (lv_at hl 5 rfl) ?_
    refine lv_iload hx hb dX11_transfer_460 (lv_at hl 2 rfl) ?_
    refine lv_if_eq (tgt := 478) hx hb dX11_transfer_462 (by decide) (fun c_462 => ?_) (fun c_462 => ?_)
    · have hF := hF.trans (if_pos c_462)
      have hO := hO.1 c_462
      refine lv_iload hx hb dX11_transfer_478 (lv_at hl 0 rfl) ?_
      exact k_m_transfer_b480 g C st x7 x11 x15 x12 y0 H locs ls hI (lv_sub hl [1, 3, 4, 8] rfl) hO X hF
    · have hF := hF.trans (if_neg c_462)
      have hO := hO.2 c_462
      refine lv_iload hx hb dX11_transfer_465 (lv_at hl 0 rfl) ?_
      refine lv_sipush (v := (255 : Int32)) hx hb dX11_transfer_467 (by decide) ?_
      refine lv_iand hx hb dX11_transfer_470 ?_
      refine lv_ldcw (v := (16843009 : Int32)) hx hb hown (hts _ (List.mem_cons_of_mem _ mw876)) dX11_transfer_471 ?_
      refine lv_imul hx hb dX11_transfer_474 ?_
      refine lv_goto (tgt := 480) hx hb dX11_transfer_475 (by decide) ?_
      exact k_m_transfer_b480 g C st x7 x11 x15 x12 ((y0 &&& (255 : Int32)) * (16843009 : Int32)) H locs ls hI (lv_sub hl [1, 3, 4, 8] rfl) hO X hF
def m_transfer_b401 (st : CS) (x8 : Int32) : CS × Int32 := (if ((15 : Int32) ≤ x8) then (st, (7 : Int32)) else (st, (4 : Int32)))
set_option maxHeartbeats 4000000 in
set_option maxRecDepth 100000 in
theorem k_m_transfer_b401 {p : Program} {l : Launch} {e : Env} {s : State} {m : MethodId} {args : Array Value} {below : List Frame} {meth : Method} {c : Code} {A : Nat → Prop} (g : Gm) (C : cX p s m args meth c A cX11_transfer (some .int) 17 RX11 wq_X11_transfer (gD g) vwCl (mty g) (mz g)) (st : CS) (x8 : Int32) (H : Heap) (locs : List Loc) (ls : Array Slot) (hI : cI (gD g) vwCl (mw g) A s st H locs) (hl : lv_has ls 17 [(0, .ref (gad g 0)), (8, .int x8)]) (X : CS × Int32) (hF : X = m_transfer_b401 st x8) : W p l e rm_m_transfer s m args below meth c H locs 0 0 (MQ below (cQi (gD g) vwCl (mty g) (mw g) A X.1 X.2) args s 0 0 A) (F0 m 401 ls []) := by
  obtain ⟨hx, hb, hr, hml, hown, hts, hlocks, hK, hA, hZ, hzo⟩ := id C
  unfold m_transfer_b401 at hF
  refine lv_iload hx hb dX11_transfer_401 (lv_at hl 1 rfl) ?_
  refine lv_bipush (v := (15 : Int32)) hx hb dX11_transfer_403 (by decide) ?_
  refine lv_icmp_ge (tgt := 412) hx hb dX11_transfer_405 (by decide) (fun c_405 => ?_) (fun c_405 => ?_)
  · have hF := hF.trans (if_pos c_405)
    refine lv_bipush (v := (7 : Int32)) hx hb dX11_transfer_412 (by decide) ?_
    exact cx_iret C hI (congrArg Prod.fst hF) (congrArg Prod.snd hF) dX11_transfer_414
  · have hF := hF.trans (if_neg c_405)
    refine lv_iconst (v := (4 : Int32)) hx hb dX11_transfer_408 (by decide) ?_
    refine lv_goto (tgt := 414) hx hb dX11_transfer_409 (by decide) ?_
    exact cx_iret C hI (congrArg Prod.fst hF) (congrArg Prod.snd hF) dX11_transfer_414
def m_transfer_b389 (st : CS) (x8 : Int32) : CS × Int32 := (m_transfer_b401 st x8)
set_option maxHeartbeats 4000000 in
set_option maxRecDepth 100000 in
theorem k_m_transfer_b389 {p : Program} {l : Launch} {e : Env} {s : State} {m : MethodId} {args : Array Value} {below : List Frame} {meth : Method} {c : Code} {A : Nat → Prop} (g : Gm) (C : cX p s m args meth c A cX11_transfer (some .int) 17 RX11 wq_X11_transfer (gD g) vwCl (mty g) (mz g)) (st : CS) (x8 : Int32) (H : Heap) (locs : List Loc) (ls : Array Slot) (hI : cI (gD g) vwCl (mw g) A s st H locs) (hl : lv_has ls 17 [(0, .ref (gad g 0)), (8, .int x8)]) (X : CS × Int32) (hF : X = m_transfer_b389 st x8) : W p l e rm_m_transfer s m args below meth c H locs 0 0 (MQ below (cQi (gD g) vwCl (mty g) (mw g) A X.1 X.2) args s 0 0 A) (F0 m 389 ls []) := by
  obtain ⟨hx, hb, hr, hml, hown, hts, hlocks, hK, hA, hZ, hzo⟩ := id C
  unfold m_transfer_b389 at hF
  refine lv_goto (tgt := 401) hx hb dX11_transfer_389 (by decide) ?_
  exact k_m_transfer_b401 g C st x8 H locs ls hI (lv_sub hl [0, 1] rfl) X hF
def m_transfer_b370 (st : CS) (x8 : Int32) (x16 : Int32) : CS × Int32 := (if ((15 : Int32) ≤ x8) then (m_transfer_b401 (sI st 3 (x16 &&& (67108860 : Int32))) x8) else (m_transfer_b389 (m_give st (m_mode st) x8 x16) x8))
def o_m_transfer_b370 (st : CS) (x8 : Int32) (x16 : Int32) : Prop := ((((15 : Int32) ≤ x8) → True) ∧ (¬ ((15 : Int32) ≤ x8) → ((o_m_give st (m_mode st) x8 x16) ∧ True)))
set_option maxHeartbeats 4000000 in
set_option maxRecDepth 100000 in
theorem k_m_transfer_b370 {p : Program} {l : Launch} {e : Env} {s : State} {m : MethodId} {args : Array Value} {below : List Frame} {meth : Method} {c : Code} {A : Nat → Prop} (g : Gm) (C : cX p s m args meth c A cX11_transfer (some .int) 17 RX11 wq_X11_transfer (gD g) vwCl (mty g) (mz g)) (st : CS) (x8 : Int32) (x16 : Int32) (H : Heap) (locs : List Loc) (ls : Array Slot) (hI : cI (gD g) vwCl (mw g) A s st H locs) (hl : lv_has ls 17 [(0, .ref (gad g 0)), (8, .int x8), (16, .int x16)]) (hO : o_m_transfer_b370 st x8 x16) (X : CS × Int32) (hF : X = m_transfer_b370 st x8 x16) : W p l e rm_m_transfer s m args below meth c H locs 0 0 (MQ below (cQi (gD g) vwCl (mty g) (mw g) A X.1 X.2) args s 0 0 A) (F0 m 370 ls []) := by
  obtain ⟨hx, hb, hr, hml, hown, hts, hlocks, hK, hA, hZ, hzo⟩ := id C
  unfold m_transfer_b370 at hF
  unfold o_m_transfer_b370 at hO
  refine lv_iload hx hb dX11_transfer_370 (lv_at hl 1 rfl) ?_
  refine lv_bipush (v := (15 : Int32)) hx hb dX11_transfer_372 (by decide) ?_
  refine lv_icmp_ge (tgt := 392) hx hb dX11_transfer_374 (by decide) (fun c_374 => ?_) (fun c_374 => ?_)
  · have hF := hF.trans (if_pos c_374)
    have hO := hO.1 c_374
    refine lv_aload_n hx hb dX11_transfer_392 rfl (lv_at hl 0 rfl) ?_
    refine lv_iload hx hb dX11_transfer_393 (lv_at hl 2 rfl) ?_
    refine lv_ldc (v := (67108860 : Int32)) hx hb hown (hts _ (List.mem_cons_of_mem _ mw748)) dX11_transfer_395 ?_
    refine lv_iand hx hb dX11_transfer_397 ?_
    refine va_put (D := gD g) (ci := 11) (C := RX11) (T := TX11) (N := 50) (v := .int (x16 &&& (67108860 : Int32))) (ty := .int) hx hb hts (fun w h => List.mem_cons_of_mem _ (isX110 w h)) tyX11 tyX11_ok nmX11 hown hK hI.1 hI.2.1 hI.2.2 0 rfl rfl 7 (by decide) (hts _ (List.mem_cons_of_mem _ mw750)) (fun _ h9 => h9) rfl (by decide +kernel) rfl rfl (Nat.le_of_ble_eq_true rfl) dX11_transfer_398 (fun H locs hP hD hS => ?_)
    have hI : cI (gD g) vwCl (mw g) A s (sI st 3 (x16 &&& (67108860 : Int32))) H locs := ⟨hP, hD, hS⟩
    exact k_m_transfer_b401 g C (sI st 3 (x16 &&& (67108860 : Int32))) x8 H locs ls hI (lv_sub hl [0, 1] rfl) X hF
  · have hF := hF.trans (if_neg c_374)
    have hO := hO.2 c_374
    refine lv_aload_n hx hb dX11_transfer_377 rfl (lv_at hl 0 rfl) ?_
    refine lv_aload_n hx hb dX11_transfer_378 rfl (lv_at hl 0 rfl) ?_
    refine cx_Vi (As := []) (rest := [.ref (gad g 0)]) C (c_m_mode l g st ) (cwV 0 hts (gd_V _ mw796 mw797 mw798 mw3 mw799) rfl rfl rfl yd_yX11_mode ⟨Nat.le_of_ble_eq_true rfl, Nat.le_of_ble_eq_true rfl⟩) (va_recv hK hI.1 (ci := 11) (q0 := 0) rfl rfl) hI rfl hl.1 rfl (Nat.le_of_ble_eq_true rfl) dX11_transfer_379 (fun H locs hI => ?_)
    refine lv_iload hx hb dX11_transfer_382 (lv_at hl 1 rfl) ?_
    refine lv_iload hx hb dX11_transfer_384 (lv_at hl 2 rfl) ?_
    have hq_386_0 := hO.1
    have hO := hO.2
    refine cx_Vv (As := [.int (m_mode st), .int x8, .int x16]) (rest := []) C (c_m_give l g st (m_mode st) x8 x16 hq_386_0) (cwV 3 hts (gd_V _ mw777 mw778 mw779 mw3 mw780) rfl rfl rfl yd_yX11_give ⟨Nat.le_of_ble_eq_true rfl, Nat.le_of_ble_eq_true rfl⟩) (va_recv hK hI.1 (ci := 11) (q0 := 0) rfl rfl) hI rfl hl.1 rfl (Nat.le_of_ble_eq_true rfl) dX11_transfer_386 (fun H locs hI => ?_)
    exact k_m_transfer_b389 g C (m_give st (m_mode st) x8 x16) x8 H locs ls hI (lv_sub hl [0, 1] rfl) X hF
def m_transfer_b351 (st : CS) (x7 : Int32) (x8 : Int32) (x11 : Int32) (x15 : Int32) (y0 : Int32) : CS × Int32 := (if (x15 = 0) then (m_transfer_b370 st x8 y0) else (m_transfer_b370 (m_give st (m_mode st) x7 x11) x8 y0))
def o_m_transfer_b351 (st : CS) (x7 : Int32) (x8 : Int32) (x11 : Int32) (x15 : Int32) (y0 : Int32) : Prop := (((x15 = 0) → (o_m_transfer_b370 st x8 y0)) ∧ (¬ (x15 = 0) → ((o_m_give st (m_mode st) x7 x11) ∧ (o_m_transfer_b370 (m_give st (m_mode st) x7 x11) x8 y0))))
set_option maxHeartbeats 4000000 in
set_option maxRecDepth 100000 in
theorem k_m_transfer_b351 {p : Program} {l : Launch} {e : Env} {s : State} {m : MethodId} {args : Array Value} {below : List Frame} {meth : Method} {c : Code} {A : Nat → Prop} (g : Gm) (C : cX p s m args meth c A cX11_transfer (some .int) 17 RX11 wq_X11_transfer (gD g) vwCl (mty g) (mz g)) (st : CS) (x7 : Int32) (x8 : Int32) (x11 : Int32) (x15 : Int32) (y0 : Int32) (H : Heap) (locs : List Loc) (ls : Array Slot) (hI : cI (gD g) vwCl (mw g) A s st H locs) (hl : lv_has ls 17 [(0, .ref (gad g 0)), (7, .int x7), (8, .int x8), (11, .int x11), (15, .int x15)]) (hO : o_m_transfer_b351 st x7 x8 x11 x15 y0) (X : CS × Int32) (hF : X = m_transfer_b351 st x7 x8 x11 x15 y0) : W p l e rm_m_transfer s m args below meth c H locs 0 0 (MQ below (cQi (gD g) vwCl (mty g) (mw g) A X.1 X.2) args s 0 0 A) (F0 m 351 ls [.int y0]) := by
  obtain ⟨hx, hb, hr, hml, hown, hts, hlocks, hK, hA, hZ, hzo⟩ := id C
  unfold m_transfer_b351 at hF
  unfold o_m_transfer_b351 at hO
  refine lv_istore (lv' := [(16, .int y0), (0, .ref (gad g 0)), (7, .int x7), (8, .int x8), (11, .int x11), (15, .int x15)]) hx hb dX11_transfer_351 hl (by decide) rfl (fun ls hl => ?_)
  refine lv_iload hx hb dX11_transfer_353 (lv_at hl 5 rfl) ?_
  refine lv_if_eq (tgt := 370) hx hb dX11_transfer_355 (by decide) (fun c_355 => ?_) (fun c_355 => ?_)
  · have hF := hF.trans (if_pos c_355)
    have hO := hO.1 c_355
    exact k_m_transfer_b370 g C st x8 y0 H locs ls hI (lv_sub hl [1, 3, 0] rfl) hO X hF
  · have hF := hF.trans (if_neg c_355)
    have hO := hO.2 c_355
    refine lv_aload_n hx hb dX11_transfer_358 rfl (lv_at hl 1 rfl) ?_
    refine lv_aload_n hx hb dX11_transfer_359 rfl (lv_at hl 1 rfl) ?_
    refine cx_Vi (As := []) (rest := [.ref (gad g 0)]) C (c_m_mode l g st ) (cwV 0 hts (gd_V _ mw796 mw797 mw798 mw3 mw799) rfl rfl rfl yd_yX11_mode ⟨Nat.le_of_ble_eq_true rfl, Nat.le_of_ble_eq_true rfl⟩) (va_recv hK hI.1 (ci := 11) (q0 := 0) rfl rfl) hI rfl hl.1 rfl (Nat.le_of_ble_eq_true rfl) dX11_transfer_360 (fun H locs hI => ?_)
    refine lv_iload hx hb dX11_transfer_363 (lv_at hl 2 rfl) ?_
    refine lv_iload hx hb dX11_transfer_365 (lv_at hl 4 rfl) ?_
    have hq_367_0 := hO.1
    have hO := hO.2
    refine cx_Vv (As := [.int (m_mode st), .int x7, .int x11]) (rest := []) C (c_m_give l g st (m_mode st) x7 x11 hq_367_0) (cwV 3 hts (gd_V _ mw777 mw778 mw779 mw3 mw780) rfl rfl rfl yd_yX11_give ⟨Nat.le_of_ble_eq_true rfl, Nat.le_of_ble_eq_true rfl⟩) (va_recv hK hI.1 (ci := 11) (q0 := 0) rfl rfl) hI rfl hl.1 rfl (Nat.le_of_ble_eq_true rfl) dX11_transfer_367 (fun H locs hI => ?_)
    exact k_m_transfer_b370 g C (m_give st (m_mode st) x7 x11) x8 y0 H locs ls hI (lv_sub hl [1, 3, 0] rfl) hO X hF
def m_transfer_b325 (st : CS) (x5 : Int32) (x7 : Int32) (x8 : Int32) (x11 : Int32) (x14 : Int32) (x15 : Int32) (y0 : Int32) : CS × Int32 := (if (x5 = 0) then (m_transfer_b351 st x7 x8 x11 x15 (m_turned y0 x14)) else (m_transfer_b351 st x7 x8 x11 x15 ((ushr y0 x14) &&& (255 : Int32))))
def o_m_transfer_b325 (st : CS) (x5 : Int32) (x7 : Int32) (x8 : Int32) (x11 : Int32) (x14 : Int32) (x15 : Int32) (y0 : Int32) : Prop := (((x5 = 0) → (o_m_transfer_b351 st x7 x8 x11 x15 (m_turned y0 x14))) ∧ (¬ (x5 = 0) → (o_m_transfer_b351 st x7 x8 x11 x15 ((ushr y0 x14) &&& (255 : Int32)))))
set_option maxHeartbeats 4000000 in
set_option maxRecDepth 100000 in
theorem k_m_transfer_b325 {p : Program} {l : Launch} {e : Env} {s : State} {m : MethodId} {args : Array Value} {below : List Frame} {meth : Method} {c : Code} {A : Nat → Prop} (g : Gm) (C : cX p s m args meth c A cX11_transfer (some .int) 17 RX11 wq_X11_transfer (gD g) vwCl (mty g) (mz g)) (st : CS) (x5 : Int32) (x7 : Int32) (x8 : Int32) (x11 : Int32) (x14 : Int32) (x15 : Int32) (y0 : Int32) (H : Heap) (locs : List Loc) (ls : Array Slot) (hI : cI (gD g) vwCl (mw g) A s st H locs) (hl : lv_has ls 17 [(0, .ref (gad g 0)), (5, .int x5), (7, .int x7), (8, .int x8), (11, .int x11), (14, .int x14), (15, .int x15)]) (hO : o_m_transfer_b325 st x5 x7 x8 x11 x14 x15 y0) (X : CS × Int32) (hF : X = m_transfer_b325 st x5 x7 x8 x11 x14 x15 y0) : W p l e rm_m_transfer s m args below meth c H locs 0 0 (MQ below (cQi (gD g) vwCl (mty g) (mw g) A X.1 X.2) args s 0 0 A) (F0 m 325 ls [.int y0]) := by
  obtain ⟨hx, hb, hr, hml, hown, hts, hlocks, hK, hA, hZ, hzo⟩ := id C
  unfold m_transfer_b325 at hF
  unfold o_m_transfer_b325 at hO
  refine lv_istore (lv' := [(16, .int y0), (0, .ref (gad g 0)), (5, .int x5), (7, .int x7), (8, .int x8), (11, .int x11), (14, .int x14), (15, .int x15)]) hx hb dX11_transfer_325 hl (by decide) rfl (fun ls hl => ?_)
  refine lv_iload hx hb dX11_transfer_327 (lv_at hl 2 rfl) ?_
  refine lv_if_eq (tgt := 344) hx hb dX11_transfer_329 (by decide) (fun c_329 => ?_) (fun c_329 => ?_)
  · have hF := hF.trans (if_pos c_329)
    have hO := hO.1 c_329
    refine lv_iload hx hb dX11_transfer_344 (lv_at hl 0 rfl) ?_
    refine lv_iload hx hb dX11_transfer_346 (lv_at hl 6 rfl) ?_
    refine cx_Si (As := [.int y0, .int x14]) (rest := []) C (c_m_turned l g st y0 x14) (va_cwS 2 hts (gd_S _ mw843 mw844 mw3 mw845) rfl rfl rfl yd_yX11_turned ⟨Nat.le_of_ble_eq_true rfl, Nat.le_of_ble_eq_true rfl⟩) hI rfl hl.1 rfl (Nat.le_of_ble_eq_true rfl) dX11_transfer_348 (fun H locs hI => ?_)
    exact k_m_transfer_b351 g C st x7 x8 x11 x15 (m_turned y0 x14) H locs ls hI (lv_sub hl [1, 3, 4, 5, 7] rfl) hO X hF
  · have hF := hF.trans (if_neg c_329)
    have hO := hO.2 c_329
    refine lv_iload hx hb dX11_transfer_332 (lv_at hl 0 rfl) ?_
    refine lv_iload hx hb dX11_transfer_334 (lv_at hl 6 rfl) ?_
    refine lv_iushr (v := (ushr y0 x14)) hx hb dX11_transfer_336 rfl ?_
    refine lv_sipush (v := (255 : Int32)) hx hb dX11_transfer_337 (by decide) ?_
    refine lv_iand hx hb dX11_transfer_340 ?_
    refine lv_goto (tgt := 351) hx hb dX11_transfer_341 (by decide) ?_
    exact k_m_transfer_b351 g C st x7 x8 x11 x15 ((ushr y0 x14) &&& (255 : Int32)) H locs ls hI (lv_sub hl [1, 3, 4, 5, 7] rfl) hO X hF
def m_transfer_b315 (st : CS) (x5 : Int32) (x7 : Int32) (x8 : Int32) (x11 : Int32) (x14 : Int32) (x15 : Int32) (y0 : Int32) : CS × Int32 := (m_transfer_b325 st x5 x7 x8 x11 x14 x15 y0)
def o_m_transfer_b315 (st : CS) (x5 : Int32) (x7 : Int32) (x8 : Int32) (x11 : Int32) (x14 : Int32) (x15 : Int32) (y0 : Int32) : Prop := (o_m_transfer_b325 st x5 x7 x8 x11 x14 x15 y0)
set_option maxHeartbeats 4000000 in
set_option maxRecDepth 100000 in
theorem k_m_transfer_b315 {p : Program} {l : Launch} {e : Env} {s : State} {m : MethodId} {args : Array Value} {below : List Frame} {meth : Method} {c : Code} {A : Nat → Prop} (g : Gm) (C : cX p s m args meth c A cX11_transfer (some .int) 17 RX11 wq_X11_transfer (gD g) vwCl (mty g) (mz g)) (st : CS) (x5 : Int32) (x7 : Int32) (x8 : Int32) (x11 : Int32) (x14 : Int32) (x15 : Int32) (y0 : Int32) (H : Heap) (locs : List Loc) (ls : Array Slot) (hI : cI (gD g) vwCl (mw g) A s st H locs) (hl : lv_has ls 17 [(0, .ref (gad g 0)), (5, .int x5), (7, .int x7), (8, .int x8), (11, .int x11), (14, .int x14), (15, .int x15)]) (hO : o_m_transfer_b315 st x5 x7 x8 x11 x14 x15 y0) (X : CS × Int32) (hF : X = m_transfer_b315 st x5 x7 x8 x11 x14 x15 y0) : W p l e rm_m_transfer s m args below meth c H locs 0 0 (MQ below (cQi (gD g) vwCl (mty g) (mw g) A X.1 X.2) args s 0 0 A) (F0 m 315 ls [.int y0]) := by
  obtain ⟨hx, hb, hr, hml, hown, hts, hlocks, hK, hA, hZ, hzo⟩ := id C
  unfold m_transfer_b315 at hF
  unfold o_m_transfer_b315 at hO
  refine lv_goto (tgt := 325) hx hb dX11_transfer_315 (by decide) ?_
  exact k_m_transfer_b325 g C st x5 x7 x8 x11 x14 x15 y0 H locs ls hI (lv_sub hl [0, 1, 2, 3, 4, 5, 6] rfl) hO X hF
def m_transfer_b296 (st : CS) (x5 : Int32) (x6 : Int32) (x7 : Int32) (x8 : Int32) (x11 : Int32) (x12 : Int32) (x13 : Int32) (x14 : Int32) (y0 : Int32) : CS × Int32 := (if (x6 = 0) then (if (x8 = (15 : Int32)) then (m_transfer_b449 st x5 x7 x11 x12 x13 x14 y0 (((gI st 1) &&& (-67108861 : Int32)) ||| (m_ahead st (12 : Int32)))) else (m_transfer_b449 st x5 x7 x11 x12 x13 x14 y0 (m_get st (m_mode st) x8))) else (if (x13 = (-1 : Int32)) then (m_transfer_b315 (m_readFar st x12).1 x5 x7 x8 x11 x14 y0 (m_readFar st x12).2) else (m_transfer_b325 st x5 x7 x8 x11 x14 y0 ((gA st 5) x13.toNatClampNeg))))
def o_m_transfer_b296 (st : CS) (x5 : Int32) (x6 : Int32) (x7 : Int32) (x8 : Int32) (x11 : Int32) (x12 : Int32) (x13 : Int32) (x14 : Int32) (y0 : Int32) : Prop := (((x6 = 0) → (((x8 = (15 : Int32)) → (o_m_transfer_b449 st x5 x7 x11 x12 x13 x14 y0 (((gI st 1) &&& (-67108861 : Int32)) ||| (m_ahead st (12 : Int32))))) ∧ (¬ (x8 = (15 : Int32)) → ((o_m_get st (m_mode st) x8) ∧ (o_m_transfer_b449 st x5 x7 x11 x12 x13 x14 y0 (m_get st (m_mode st) x8)))))) ∧ (¬ (x6 = 0) → (((x13 = (-1 : Int32)) → ((o_m_readFar st x12) ∧ (o_m_transfer_b315 (m_readFar st x12).1 x5 x7 x8 x11 x14 y0 (m_readFar st x12).2))) ∧ (¬ (x13 = (-1 : Int32)) → (vp_in x13 16384 ∧ (o_m_transfer_b325 st x5 x7 x8 x11 x14 y0 ((gA st 5) x13.toNatClampNeg)))))))
set_option maxHeartbeats 4000000 in
set_option maxRecDepth 100000 in
theorem k_m_transfer_b296 {p : Program} {l : Launch} {e : Env} {s : State} {m : MethodId} {args : Array Value} {below : List Frame} {meth : Method} {c : Code} {A : Nat → Prop} (g : Gm) (C : cX p s m args meth c A cX11_transfer (some .int) 17 RX11 wq_X11_transfer (gD g) vwCl (mty g) (mz g)) (st : CS) (x5 : Int32) (x6 : Int32) (x7 : Int32) (x8 : Int32) (x11 : Int32) (x12 : Int32) (x13 : Int32) (x14 : Int32) (y0 : Int32) (H : Heap) (locs : List Loc) (ls : Array Slot) (hI : cI (gD g) vwCl (mw g) A s st H locs) (hl : lv_has ls 17 [(0, .ref (gad g 0)), (5, .int x5), (6, .int x6), (7, .int x7), (8, .int x8), (11, .int x11), (12, .int x12), (13, .int x13), (14, .int x14)]) (hO : o_m_transfer_b296 st x5 x6 x7 x8 x11 x12 x13 x14 y0) (X : CS × Int32) (hF : X = m_transfer_b296 st x5 x6 x7 x8 x11 x12 x13 x14 y0) : W p l e rm_m_transfer s m args below meth c H locs 0 0 (MQ below (cQi (gD g) vwCl (mty g) (mw g) A X.1 X.2) args s 0 0 A) (F0 m 296 ls [.int y0]) := by
  obtain ⟨hx, hb, hr, hml, hown, hts, hlocks, hK, hA, hZ, hzo⟩ := id C
  unfold m_transfer_b296 at hF
  unfold o_m_transfer_b296 at hO
  refine lv_istore (lv' := [(15, .int y0), (0, .ref (gad g 0)), (5, .int x5), (6, .int x6), (7, .int x7), (8, .int x8), (11, .int x11), (12, .int x12), (13, .int x13), (14, .int x14)]) hx hb dX11_transfer_296 hl (by decide) rfl (fun ls hl => ?_)
  refine lv_iload hx hb dX11_transfer_298 (lv_at hl 3 rfl) ?_
  refine lv_if_eq (tgt := 415) hx hb dX11_transfer_300 (by decide) (fun c_300 => ?_) (fun c_300 => ?_)
  · have hF := hF.trans (if_pos c_300)
    have hO := hO.1 c_300
    refine lv_iload hx hb dX11_transfer_415 (lv_at hl 5 rfl) ?_
    refine lv_bipush (v := (15 : Int32)) hx hb dX11_transfer_417 (by decide) ?_
    refine lv_icmp_ne (tgt := 439) hx hb dX11_transfer_419 (by decide) (fun c_419 => ?_) (fun c_419 => ?_)
    · have hF := hF.trans (if_neg c_419)
      have hO := hO.2 c_419
      refine lv_aload_n hx hb dX11_transfer_439 rfl (lv_at hl 1 rfl) ?_
      refine lv_aload_n hx hb dX11_transfer_440 rfl (lv_at hl 1 rfl) ?_
      refine cx_Vi (As := []) (rest := [.ref (gad g 0)]) C (c_m_mode l g st ) (cwV 0 hts (gd_V _ mw796 mw797 mw798 mw3 mw799) rfl rfl rfl yd_yX11_mode ⟨Nat.le_of_ble_eq_true rfl, Nat.le_of_ble_eq_true rfl⟩) (va_recv hK hI.1 (ci := 11) (q0 := 0) rfl rfl) hI rfl hl.1 rfl (Nat.le_of_ble_eq_true rfl) dX11_transfer_441 (fun H locs hI => ?_)
      refine lv_iload hx hb dX11_transfer_444 (lv_at hl 5 rfl) ?_
      have hq_446_0 := hO.1
      have hO := hO.2
      refine cx_Vi (As := [.int (m_mode st), .int x8]) (rest := []) C (c_m_get l g st (m_mode st) x8 hq_446_0) (cwV 2 hts (gd_V _ mw830 mw831 mw832 mw3 mw833) rfl rfl rfl yd_yX11_get ⟨Nat.le_of_ble_eq_true rfl, Nat.le_of_ble_eq_true rfl⟩) (va_recv hK hI.1 (ci := 11) (q0 := 0) rfl rfl) hI rfl hl.1 rfl (Nat.le_of_ble_eq_true rfl) dX11_transfer_446 (fun H locs hI => ?_)
      exact k_m_transfer_b449 g C st x5 x7 x11 x12 x13 x14 y0 (m_get st (m_mode st) x8) H locs ls hI (lv_sub hl [1, 2, 4, 6, 7, 8, 9, 0] rfl) hO X hF
    · have hF := hF.trans (if_pos c_419)
      have hO := hO.1 c_419
      refine lv_aload_n hx hb dX11_transfer_422 rfl (lv_at hl 1 rfl) ?_
      refine va_get (D := gD g) (ci := 11) (C := RX11) (T := TX11) (N := 50) (v := .int (gI st 1)) hx hb hts (fun w h => List.mem_cons_of_mem _ (isX110 w h)) hown hK hI.1 0 rfl rfl 5 (by decide) (hts _ (List.mem_cons_of_mem _ mw210)) (fun _ h9 => h9) rfl dX11_transfer_423 ?_
      refine lv_ldc (v := (-67108861 : Int32)) hx hb hown (hts _ (List.mem_cons_of_mem _ mw752)) dX11_transfer_426 ?_
      refine lv_iand hx hb dX11_transfer_428 ?_
      refine lv_aload_n hx hb dX11_transfer_429 rfl (lv_at hl 1 rfl) ?_
      refine lv_bipush (v := (12 : Int32)) hx hb dX11_transfer_430 (by decide) ?_
      refine cx_Vi (As := [.int (12 : Int32)]) (rest := [.int ((gI st 1) &&& (-67108861 : Int32))]) C (c_m_ahead l g st (12 : Int32)) (cwV 1 hts (gd_V _ mw769 mw770 mw771 mw3 mw772) rfl rfl rfl yd_yX11_ahead ⟨Nat.le_of_ble_eq_true rfl, Nat.le_of_ble_eq_true rfl⟩) (va_recv hK hI.1 (ci := 11) (q0 := 0) rfl rfl) hI rfl hl.1 rfl (Nat.le_of_ble_eq_true rfl) dX11_transfer_432 (fun H locs hI => ?_)
      refine lv_ior hx hb dX11_transfer_435 ?_
      refine lv_goto (tgt := 449) hx hb dX11_transfer_436 (by decide) ?_
      exact k_m_transfer_b449 g C st x5 x7 x11 x12 x13 x14 y0 (((gI st 1) &&& (-67108861 : Int32)) ||| (m_ahead st (12 : Int32))) H locs ls hI (lv_sub hl [1, 2, 4, 6, 7, 8, 9, 0] rfl) hO X hF
  · have hF := hF.trans (if_neg c_300)
    have hO := hO.2 c_300
    refine lv_iload hx hb dX11_transfer_303 (lv_at hl 8 rfl) ?_
    refine lv_iconst (v := (-1 : Int32)) hx hb dX11_transfer_305 (by decide) ?_
    refine lv_icmp_ne (tgt := 318) hx hb dX11_transfer_306 (by decide) (fun c_306 => ?_) (fun c_306 => ?_)
    · have hF := hF.trans (if_neg c_306)
      have hO := hO.2 c_306
      refine lv_aload_n hx hb dX11_transfer_318 rfl (lv_at hl 1 rfl) ?_
      refine va_get (D := gD g) (ci := 11) (C := RX11) (T := TX11) (N := 50) (v := .ref (gad g 6)) hx hb hts (fun w h => List.mem_cons_of_mem _ (isX110 w h)) hown hK hI.1 0 rfl rfl 10 (by decide) (hts _ (List.mem_cons_of_mem _ mw190)) (fun _ h9 => h9) rfl dX11_transfer_319 ?_
      refine lv_iload hx hb dX11_transfer_322 (lv_at hl 8 rfl) ?_
      have hq_324_0 := hO.1
      have hO := hO.2
      refine va_iald (f := (gA st 5)) hx hb hK hI.1 6 5 rfl rfl hq_324_0 dX11_transfer_324 ?_
      exact k_m_transfer_b325 g C st x5 x7 x8 x11 x14 y0 ((gA st 5) x13.toNatClampNeg) H locs ls hI (lv_sub hl [1, 2, 4, 5, 6, 9, 0] rfl) hO X hF
    · have hF := hF.trans (if_pos c_306)
      have hO := hO.1 c_306
      refine lv_aload_n hx hb dX11_transfer_309 rfl (lv_at hl 1 rfl) ?_
      refine lv_iload hx hb dX11_transfer_310 (lv_at hl 7 rfl) ?_
      have hq_312_0 := hO.1
      have hO := hO.2
      refine cx_Vi (As := [.int x12]) (rest := []) C (c_m_readFar l g st x12 hq_312_0) (cwV 1 hts (gd_V _ mw877 mw878 mw879 mw3 mw880) rfl rfl rfl yd_yX11_readFar ⟨Nat.le_of_ble_eq_true rfl, Nat.le_of_ble_eq_true rfl⟩) (va_recv hK hI.1 (ci := 11) (q0 := 0) rfl rfl) hI rfl hl.1 rfl (Nat.le_of_ble_eq_true rfl) dX11_transfer_312 (fun H locs hI => ?_)
      exact k_m_transfer_b315 g C (m_readFar st x12).1 x5 x7 x8 x11 x14 y0 (m_readFar st x12).2 H locs ls hI (lv_sub hl [1, 2, 4, 5, 6, 9, 0] rfl) hO X hF
def m_transfer_b295 (st : CS) (x5 : Int32) (x6 : Int32) (x7 : Int32) (x8 : Int32) (x11 : Int32) (x12 : Int32) (x13 : Int32) (x14 : Int32) : CS × Int32 := (m_transfer_b296 st x5 x6 x7 x8 x11 x12 x13 x14 (0 : Int32))
def o_m_transfer_b295 (st : CS) (x5 : Int32) (x6 : Int32) (x7 : Int32) (x8 : Int32) (x11 : Int32) (x12 : Int32) (x13 : Int32) (x14 : Int32) : Prop := (o_m_transfer_b296 st x5 x6 x7 x8 x11 x12 x13 x14 (0 : Int32))
set_option maxHeartbeats 4000000 in
set_option maxRecDepth 100000 in
theorem k_m_transfer_b295 {p : Program} {l : Launch} {e : Env} {s : State} {m : MethodId} {args : Array Value} {below : List Frame} {meth : Method} {c : Code} {A : Nat → Prop} (g : Gm) (C : cX p s m args meth c A cX11_transfer (some .int) 17 RX11 wq_X11_transfer (gD g) vwCl (mty g) (mz g)) (st : CS) (x5 : Int32) (x6 : Int32) (x7 : Int32) (x8 : Int32) (x11 : Int32) (x12 : Int32) (x13 : Int32) (x14 : Int32) (H : Heap) (locs : List Loc) (ls : Array Slot) (hI : cI (gD g) vwCl (mw g) A s st H locs) (hl : lv_has ls 17 [(0, .ref (gad g 0)), (5, .int x5), (6, .int x6), (7, .int x7), (8, .int x8), (11, .int x11), (12, .int x12), (13, .int x13), (14, .int x14)]) (hO : o_m_transfer_b295 st x5 x6 x7 x8 x11 x12 x13 x14) (X : CS × Int32) (hF : X = m_transfer_b295 st x5 x6 x7 x8 x11 x12 x13 x14) : W p l e rm_m_transfer s m args below meth c H locs 0 0 (MQ below (cQi (gD g) vwCl (mty g) (mw g) A X.1 X.2) args s 0 0 A) (F0 m 295 ls []) := by
  obtain ⟨hx, hb, hr, hml, hown, hts, hlocks, hK, hA, hZ, hzo⟩ := id C
  unfold m_transfer_b295 at hF
  unfold o_m_transfer_b295 at hO
  refine lv_iconst (v := (0 : Int32)) hx hb dX11_transfer_295 (by decide) ?_
  exact k_m_transfer_b296 g C st x5 x6 x7 x8 x11 x12 x13 x14 (0 : Int32) H locs ls hI (lv_sub hl [0, 1, 2, 3, 4, 5, 6, 7, 8] rfl) hO X hF
def m_transfer_b291 (st : CS) (x5 : Int32) (x6 : Int32) (x7 : Int32) (x8 : Int32) (x11 : Int32) (x12 : Int32) (x13 : Int32) (x14 : Int32) : CS × Int32 := (m_transfer_b296 st x5 x6 x7 x8 x11 x12 x13 x14 (1 : Int32))
def o_m_transfer_b291 (st : CS) (x5 : Int32) (x6 : Int32) (x7 : Int32) (x8 : Int32) (x11 : Int32) (x12 : Int32) (x13 : Int32) (x14 : Int32) : Prop := (o_m_transfer_b296 st x5 x6 x7 x8 x11 x12 x13 x14 (1 : Int32))
set_option maxHeartbeats 4000000 in
set_option maxRecDepth 100000 in
theorem k_m_transfer_b291 {p : Program} {l : Launch} {e : Env} {s : State} {m : MethodId} {args : Array Value} {below : List Frame} {meth : Method} {c : Code} {A : Nat → Prop} (g : Gm) (C : cX p s m args meth c A cX11_transfer (some .int) 17 RX11 wq_X11_transfer (gD g) vwCl (mty g) (mz g)) (st : CS) (x5 : Int32) (x6 : Int32) (x7 : Int32) (x8 : Int32) (x11 : Int32) (x12 : Int32) (x13 : Int32) (x14 : Int32) (H : Heap) (locs : List Loc) (ls : Array Slot) (hI : cI (gD g) vwCl (mw g) A s st H locs) (hl : lv_has ls 17 [(0, .ref (gad g 0)), (5, .int x5), (6, .int x6), (7, .int x7), (8, .int x8), (11, .int x11), (12, .int x12), (13, .int x13), (14, .int x14)]) (hO : o_m_transfer_b291 st x5 x6 x7 x8 x11 x12 x13 x14) (X : CS × Int32) (hF : X = m_transfer_b291 st x5 x6 x7 x8 x11 x12 x13 x14) : W p l e rm_m_transfer s m args below meth c H locs 0 0 (MQ below (cQi (gD g) vwCl (mty g) (mw g) A X.1 X.2) args s 0 0 A) (F0 m 291 ls []) := by
  obtain ⟨hx, hb, hr, hml, hown, hts, hlocks, hK, hA, hZ, hzo⟩ := id C
  unfold m_transfer_b291 at hF
  unfold o_m_transfer_b291 at hO
  refine lv_iconst (v := (1 : Int32)) hx hb dX11_transfer_291 (by decide) ?_
  refine lv_goto (tgt := 296) hx hb dX11_transfer_292 (by decide) ?_
  exact k_m_transfer_b296 g C st x5 x6 x7 x8 x11 x12 x13 x14 (1 : Int32) H locs ls hI (lv_sub hl [0, 1, 2, 3, 4, 5, 6, 7, 8] rfl) hO X hF
def m_transfer_b241 (st : CS) (x3 : Int32) (x4 : Int32) (x5 : Int32) (x6 : Int32) (x7 : Int32) (x8 : Int32) (x11 : Int32) (x12 : Int32) (y2 : Int32) (y1 : Int32) (y0 : Int32) : CS × Int32 := (if ((m_may st y2 y1 y0) = 0) then ((m_trap st (3 : Int32) (3 : Int32) (16 : Int32) (8 : Int32)).1, (m_trap st (3 : Int32) (3 : Int32) (16 : Int32) (8 : Int32)).2) else (if ((15 : Int32) ≤ x7) then (m_transfer_b295 st x5 x6 x7 x8 x11 x12 (m_wordAt st x12) ((8 : Int32) * (x12 &&& (3 : Int32)))) else (if (x3 = 0) then (m_transfer_b291 st x5 x6 x7 x8 x11 x12 (m_wordAt st x12) ((8 : Int32) * (x12 &&& (3 : Int32)))) else (if (x4 = 0) then (m_transfer_b295 st x5 x6 x7 x8 x11 x12 (m_wordAt st x12) ((8 : Int32) * (x12 &&& (3 : Int32)))) else (m_transfer_b291 st x5 x6 x7 x8 x11 x12 (m_wordAt st x12) ((8 : Int32) * (x12 &&& (3 : Int32))))))))
def o_m_transfer_b241 (st : CS) (x3 : Int32) (x4 : Int32) (x5 : Int32) (x6 : Int32) (x7 : Int32) (x8 : Int32) (x11 : Int32) (x12 : Int32) (y2 : Int32) (y1 : Int32) (y0 : Int32) : Prop := ((o_m_may st y2 y1 y0) ∧ ((((m_may st y2 y1 y0) = 0) → ((o_m_trap st (3 : Int32) (3 : Int32) (16 : Int32) (8 : Int32)) ∧ True)) ∧ (¬ ((m_may st y2 y1 y0) = 0) → ((o_m_wordAt st x12) ∧ ((((15 : Int32) ≤ x7) → (o_m_transfer_b295 st x5 x6 x7 x8 x11 x12 (m_wordAt st x12) ((8 : Int32) * (x12 &&& (3 : Int32))))) ∧ (¬ ((15 : Int32) ≤ x7) → (((x3 = 0) → (o_m_transfer_b291 st x5 x6 x7 x8 x11 x12 (m_wordAt st x12) ((8 : Int32) * (x12 &&& (3 : Int32))))) ∧ (¬ (x3 = 0) → (((x4 = 0) → (o_m_transfer_b295 st x5 x6 x7 x8 x11 x12 (m_wordAt st x12) ((8 : Int32) * (x12 &&& (3 : Int32))))) ∧ (¬ (x4 = 0) → (o_m_transfer_b291 st x5 x6 x7 x8 x11 x12 (m_wordAt st x12) ((8 : Int32) * (x12 &&& (3 : Int32))))))))))))))
set_option maxHeartbeats 4000000 in
set_option maxRecDepth 100000 in
theorem k_m_transfer_b241 {p : Program} {l : Launch} {e : Env} {s : State} {m : MethodId} {args : Array Value} {below : List Frame} {meth : Method} {c : Code} {A : Nat → Prop} (g : Gm) (C : cX p s m args meth c A cX11_transfer (some .int) 17 RX11 wq_X11_transfer (gD g) vwCl (mty g) (mz g)) (st : CS) (x3 : Int32) (x4 : Int32) (x5 : Int32) (x6 : Int32) (x7 : Int32) (x8 : Int32) (x11 : Int32) (x12 : Int32) (y2 : Int32) (y1 : Int32) (y0 : Int32) (H : Heap) (locs : List Loc) (ls : Array Slot) (hI : cI (gD g) vwCl (mw g) A s st H locs) (hl : lv_has ls 17 [(0, .ref (gad g 0)), (3, .int x3), (4, .int x4), (5, .int x5), (6, .int x6), (7, .int x7), (8, .int x8), (11, .int x11), (12, .int x12)]) (hO : o_m_transfer_b241 st x3 x4 x5 x6 x7 x8 x11 x12 y2 y1 y0) (X : CS × Int32) (hF : X = m_transfer_b241 st x3 x4 x5 x6 x7 x8 x11 x12 y2 y1 y0) : W p l e rm_m_transfer s m args below meth c H locs 0 0 (MQ below (cQi (gD g) vwCl (mty g) (mw g) A X.1 X.2) args s 0 0 A) (F0 m 241 ls [.int y0, .int y1, .int y2, .ref (gad g 0)]) := by
  obtain ⟨hx, hb, hr, hml, hown, hts, hlocks, hK, hA, hZ, hzo⟩ := id C
  unfold m_transfer_b241 at hF
  unfold o_m_transfer_b241 at hO
  have hq_241_0 := hO.1
  have hO := hO.2
  refine cx_Vi (As := [.int y2, .int y1, .int y0]) (rest := []) C (c_m_may l g st y2 y1 y0 hq_241_0) (cwV 3 hts (gd_V _ mw800 mw801 mw802 mw3 mw803) rfl rfl rfl yd_yX11_may ⟨Nat.le_of_ble_eq_true rfl, Nat.le_of_ble_eq_true rfl⟩) (va_recv hK hI.1 (ci := 11) (q0 := 0) rfl rfl) hI rfl hl.1 rfl (Nat.le_of_ble_eq_true rfl) dX11_transfer_241 (fun H locs hI => ?_)
  refine lv_if_ne (tgt := 258) hx hb dX11_transfer_244 (by decide) (fun c_244 => ?_) (fun c_244 => ?_)
  · have hF := hF.trans (if_neg c_244)
    have hO := hO.2 c_244
    refine lv_aload_n hx hb dX11_transfer_258 rfl (lv_at hl 0 rfl) ?_
    refine lv_iload hx hb dX11_transfer_259 (lv_at hl 8 rfl) ?_
    have hq_261_0 := hO.1
    have hO := hO.2
    refine cx_Vi (As := [.int x12]) (rest := []) C (c_m_wordAt l g st x12 hq_261_0) (cwV 1 hts (gd_V _ mw809 mw810 mw811 mw3 mw812) rfl rfl rfl yd_yX11_wordAt ⟨Nat.le_of_ble_eq_true rfl, Nat.le_of_ble_eq_true rfl⟩) (va_recv hK hI.1 (ci := 11) (q0 := 0) rfl rfl) hI rfl hl.1 rfl (Nat.le_of_ble_eq_true rfl) dX11_transfer_261 (fun H locs hI => ?_)
    refine lv_istore (lv' := [(13, .int (m_wordAt st x12)), (0, .ref (gad g 0)), (3, .int x3), (4, .int x4), (5, .int x5), (6, .int x6), (7, .int x7), (8, .int x8), (11, .int x11), (12, .int x12)]) hx hb dX11_transfer_264 hl (by decide) rfl (fun ls hl => ?_)
    refine lv_bipush (v := (8 : Int32)) hx hb dX11_transfer_266 (by decide) ?_
    refine lv_iload hx hb dX11_transfer_268 (lv_at hl 9 rfl) ?_
    refine lv_iconst (v := (3 : Int32)) hx hb dX11_transfer_270 (by decide) ?_
    refine lv_iand hx hb dX11_transfer_271 ?_
    refine lv_imul hx hb dX11_transfer_272 ?_
    refine lv_istore (lv' := [(14, .int ((8 : Int32) * (x12 &&& (3 : Int32)))), (13, .int (m_wordAt st x12)), (0, .ref (gad g 0)), (3, .int x3), (4, .int x4), (5, .int x5), (6, .int x6), (7, .int x7), (8, .int x8), (11, .int x11), (12, .int x12)]) hx hb dX11_transfer_273 hl (by decide) rfl (fun ls hl => ?_)
    refine lv_iload hx hb dX11_transfer_275 (lv_at hl 7 rfl) ?_
    refine lv_bipush (v := (15 : Int32)) hx hb dX11_transfer_277 (by decide) ?_
    refine lv_icmp_ge (tgt := 295) hx hb dX11_transfer_279 (by decide) (fun c_279 => ?_) (fun c_279 => ?_)
    · have hF := hF.trans (if_pos c_279)
      have hO := hO.1 c_279
      exact k_m_transfer_b295 g C st x5 x6 x7 x8 x11 x12 (m_wordAt st x12) ((8 : Int32) * (x12 &&& (3 : Int32))) H locs ls hI (lv_sub hl [2, 5, 6, 7, 8, 9, 10, 1, 0] rfl) hO X hF
    · have hF := hF.trans (if_neg c_279)
      have hO := hO.2 c_279
      refine lv_iload_n hx hb dX11_transfer_282 rfl (lv_at hl 3 rfl) ?_
      refine lv_if_eq (tgt := 291) hx hb dX11_transfer_283 (by decide) (fun c_283 => ?_) (fun c_283 => ?_)
      · have hF := hF.trans (if_pos c_283)
        have hO := hO.1 c_283
        exact k_m_transfer_b291 g C st x5 x6 x7 x8 x11 x12 (m_wordAt st x12) ((8 : Int32) * (x12 &&& (3 : Int32))) H locs ls hI (lv_sub hl [2, 5, 6, 7, 8, 9, 10, 1, 0] rfl) hO X hF
      · have hF := hF.trans (if_neg c_283)
        have hO := hO.2 c_283
        refine lv_iload hx hb dX11_transfer_286 (lv_at hl 4 rfl) ?_
        refine lv_if_eq (tgt := 295) hx hb dX11_transfer_288 (by decide) (fun c_288 => ?_) (fun c_288 => ?_)
        · have hF := hF.trans (if_pos c_288)
          have hO := hO.1 c_288
          exact k_m_transfer_b295 g C st x5 x6 x7 x8 x11 x12 (m_wordAt st x12) ((8 : Int32) * (x12 &&& (3 : Int32))) H locs ls hI (lv_sub hl [2, 5, 6, 7, 8, 9, 10, 1, 0] rfl) hO X hF
        · have hF := hF.trans (if_neg c_288)
          have hO := hO.2 c_288
          exact k_m_transfer_b291 g C st x5 x6 x7 x8 x11 x12 (m_wordAt st x12) ((8 : Int32) * (x12 &&& (3 : Int32))) H locs ls hI (lv_sub hl [2, 5, 6, 7, 8, 9, 10, 1, 0] rfl) hO X hF
  · have hF := hF.trans (if_pos c_244)
    have hO := hO.1 c_244
    refine lv_aload_n hx hb dX11_transfer_247 rfl (lv_at hl 0 rfl) ?_
    refine lv_iconst (v := (3 : Int32)) hx hb dX11_transfer_248 (by decide) ?_
    refine lv_iconst (v := (3 : Int32)) hx hb dX11_transfer_249 (by decide) ?_
    refine lv_bipush (v := (16 : Int32)) hx hb dX11_transfer_250 (by decide) ?_
    refine lv_bipush (v := (8 : Int32)) hx hb dX11_transfer_252 (by decide) ?_
    have hq_254_0 := hO.1
    have hO := hO.2
    refine cx_Vi (As := [.int (3 : Int32), .int (3 : Int32), .int (16 : Int32), .int (8 : Int32)]) (rest := []) C (c_m_trap l g st (3 : Int32) (3 : Int32) (16 : Int32) (8 : Int32) hq_254_0) (cwV 4 hts (gd_V _ mw765 mw766 mw767 mw3 mw768) rfl rfl rfl yd_yX11_trap ⟨Nat.le_of_ble_eq_true rfl, Nat.le_of_ble_eq_true rfl⟩) (va_recv hK hI.1 (ci := 11) (q0 := 0) rfl rfl) hI rfl hl.1 rfl (Nat.le_of_ble_eq_true rfl) dX11_transfer_254 (fun H locs hI => ?_)
    exact cx_iret C hI (congrArg Prod.fst hF) (congrArg Prod.snd hF) dX11_transfer_257
def m_transfer_b229 (st : CS) (x3 : Int32) (x4 : Int32) (x5 : Int32) (x6 : Int32) (x7 : Int32) (x8 : Int32) (x11 : Int32) (x12 : Int32) (y0 : Int32) : CS × Int32 := (if (x6 = 0) then (m_transfer_b241 st x3 x4 x5 x6 x7 x8 x11 x12 y0 x12 (1 : Int32)) else (m_transfer_b241 st x3 x4 x5 x6 x7 x8 x11 x12 y0 x12 (0 : Int32)))
def o_m_transfer_b229 (st : CS) (x3 : Int32) (x4 : Int32) (x5 : Int32) (x6 : Int32) (x7 : Int32) (x8 : Int32) (x11 : Int32) (x12 : Int32) (y0 : Int32) : Prop := (((x6 = 0) → (o_m_transfer_b241 st x3 x4 x5 x6 x7 x8 x11 x12 y0 x12 (1 : Int32))) ∧ (¬ (x6 = 0) → (o_m_transfer_b241 st x3 x4 x5 x6 x7 x8 x11 x12 y0 x12 (0 : Int32))))
set_option maxHeartbeats 4000000 in
set_option maxRecDepth 100000 in
theorem k_m_transfer_b229 {p : Program} {l : Launch} {e : Env} {s : State} {m : MethodId} {args : Array Value} {below : List Frame} {meth : Method} {c : Code} {A : Nat → Prop} (g : Gm) (C : cX p s m args meth c A cX11_transfer (some .int) 17 RX11 wq_X11_transfer (gD g) vwCl (mty g) (mz g)) (st : CS) (x3 : Int32) (x4 : Int32) (x5 : Int32) (x6 : Int32) (x7 : Int32) (x8 : Int32) (x11 : Int32) (x12 : Int32) (y0 : Int32) (H : Heap) (locs : List Loc) (ls : Array Slot) (hI : cI (gD g) vwCl (mw g) A s st H locs) (hl : lv_has ls 17 [(0, .ref (gad g 0)), (3, .int x3), (4, .int x4), (5, .int x5), (6, .int x6), (7, .int x7), (8, .int x8), (11, .int x11), (12, .int x12)]) (hO : o_m_transfer_b229 st x3 x4 x5 x6 x7 x8 x11 x12 y0) (X : CS × Int32) (hF : X = m_transfer_b229 st x3 x4 x5 x6 x7 x8 x11 x12 y0) : W p l e rm_m_transfer s m args below meth c H locs 0 0 (MQ below (cQi (gD g) vwCl (mty g) (mw g) A X.1 X.2) args s 0 0 A) (F0 m 229 ls [.int y0, .ref (gad g 0)]) := by
  obtain ⟨hx, hb, hr, hml, hown, hts, hlocks, hK, hA, hZ, hzo⟩ := id C
  unfold m_transfer_b229 at hF
  unfold o_m_transfer_b229 at hO
  refine lv_iload hx hb dX11_transfer_229 (lv_at hl 8 rfl) ?_
  refine lv_iload hx hb dX11_transfer_231 (lv_at hl 4 rfl) ?_
  refine lv_if_ne (tgt := 240) hx hb dX11_transfer_233 (by decide) (fun c_233 => ?_) (fun c_233 => ?_)
  · have hF := hF.trans (if_neg c_233)
    have hO := hO.2 c_233
    refine lv_iconst (v := (0 : Int32)) hx hb dX11_transfer_240 (by decide) ?_
    exact k_m_transfer_b241 g C st x3 x4 x5 x6 x7 x8 x11 x12 y0 x12 (0 : Int32) H locs ls hI (lv_sub hl [0, 1, 2, 3, 4, 5, 6, 7, 8] rfl) hO X hF
  · have hF := hF.trans (if_pos c_233)
    have hO := hO.1 c_233
    refine lv_iconst (v := (1 : Int32)) hx hb dX11_transfer_236 (by decide) ?_
    refine lv_goto (tgt := 241) hx hb dX11_transfer_237 (by decide) ?_
    exact k_m_transfer_b241 g C st x3 x4 x5 x6 x7 x8 x11 x12 y0 x12 (1 : Int32) H locs ls hI (lv_sub hl [0, 1, 2, 3, 4, 5, 6, 7, 8] rfl) hO X hF
def m_transfer_b225 (st : CS) (x3 : Int32) (x4 : Int32) (x5 : Int32) (x6 : Int32) (x7 : Int32) (x8 : Int32) (x11 : Int32) (x12 : Int32) : CS × Int32 := (m_transfer_b229 st x3 x4 x5 x6 x7 x8 x11 x12 (m_mode st))
def o_m_transfer_b225 (st : CS) (x3 : Int32) (x4 : Int32) (x5 : Int32) (x6 : Int32) (x7 : Int32) (x8 : Int32) (x11 : Int32) (x12 : Int32) : Prop := (o_m_transfer_b229 st x3 x4 x5 x6 x7 x8 x11 x12 (m_mode st))
set_option maxHeartbeats 4000000 in
set_option maxRecDepth 100000 in
theorem k_m_transfer_b225 {p : Program} {l : Launch} {e : Env} {s : State} {m : MethodId} {args : Array Value} {below : List Frame} {meth : Method} {c : Code} {A : Nat → Prop} (g : Gm) (C : cX p s m args meth c A cX11_transfer (some .int) 17 RX11 wq_X11_transfer (gD g) vwCl (mty g) (mz g)) (st : CS) (x3 : Int32) (x4 : Int32) (x5 : Int32) (x6 : Int32) (x7 : Int32) (x8 : Int32) (x11 : Int32) (x12 : Int32) (H : Heap) (locs : List Loc) (ls : Array Slot) (hI : cI (gD g) vwCl (mw g) A s st H locs) (hl : lv_has ls 17 [(0, .ref (gad g 0)), (3, .int x3), (4, .int x4), (5, .int x5), (6, .int x6), (7, .int x7), (8, .int x8), (11, .int x11), (12, .int x12)]) (hO : o_m_transfer_b225 st x3 x4 x5 x6 x7 x8 x11 x12) (X : CS × Int32) (hF : X = m_transfer_b225 st x3 x4 x5 x6 x7 x8 x11 x12) : W p l e rm_m_transfer s m args below meth c H locs 0 0 (MQ below (cQi (gD g) vwCl (mty g) (mw g) A X.1 X.2) args s 0 0 A) (F0 m 225 ls [.ref (gad g 0)]) := by
  obtain ⟨hx, hb, hr, hml, hown, hts, hlocks, hK, hA, hZ, hzo⟩ := id C
  unfold m_transfer_b225 at hF
  unfold o_m_transfer_b225 at hO
  refine lv_aload_n hx hb dX11_transfer_225 rfl (lv_at hl 0 rfl) ?_
  refine cx_Vi (As := []) (rest := [.ref (gad g 0)]) C (c_m_mode l g st ) (cwV 0 hts (gd_V _ mw796 mw797 mw798 mw3 mw799) rfl rfl rfl yd_yX11_mode ⟨Nat.le_of_ble_eq_true rfl, Nat.le_of_ble_eq_true rfl⟩) (va_recv hK hI.1 (ci := 11) (q0 := 0) rfl rfl) hI rfl hl.1 rfl (Nat.le_of_ble_eq_true rfl) dX11_transfer_226 (fun H locs hI => ?_)
  exact k_m_transfer_b229 g C st x3 x4 x5 x6 x7 x8 x11 x12 (m_mode st) H locs ls hI (lv_sub hl [0, 1, 2, 3, 4, 5, 6, 7, 8] rfl) hO X hF
def m_transfer_b190 (st : CS) (x3 : Int32) (x4 : Int32) (x5 : Int32) (x6 : Int32) (x7 : Int32) (x8 : Int32) (x11 : Int32) (y0 : Int32) : CS × Int32 := (if ((ushr y0 (26 : Int32)) = 0) then (if (x3 = 0) then (if (x4 = 0) then (m_transfer_b225 st x3 x4 x5 x6 x7 x8 x11 y0) else (m_transfer_b229 st x3 x4 x5 x6 x7 x8 x11 y0 (0 : Int32))) else (m_transfer_b225 st x3 x4 x5 x6 x7 x8 x11 y0)) else ((m_trap st (4 : Int32) (3 : Int32) (20 : Int32) (8 : Int32)).1, (m_trap st (4 : Int32) (3 : Int32) (20 : Int32) (8 : Int32)).2))
def o_m_transfer_b190 (st : CS) (x3 : Int32) (x4 : Int32) (x5 : Int32) (x6 : Int32) (x7 : Int32) (x8 : Int32) (x11 : Int32) (y0 : Int32) : Prop := ((((ushr y0 (26 : Int32)) = 0) → (((x3 = 0) → (((x4 = 0) → (o_m_transfer_b225 st x3 x4 x5 x6 x7 x8 x11 y0)) ∧ (¬ (x4 = 0) → (o_m_transfer_b229 st x3 x4 x5 x6 x7 x8 x11 y0 (0 : Int32))))) ∧ (¬ (x3 = 0) → (o_m_transfer_b225 st x3 x4 x5 x6 x7 x8 x11 y0)))) ∧ (¬ ((ushr y0 (26 : Int32)) = 0) → ((o_m_trap st (4 : Int32) (3 : Int32) (20 : Int32) (8 : Int32)) ∧ True)))
set_option maxHeartbeats 4000000 in
set_option maxRecDepth 100000 in
theorem k_m_transfer_b190 {p : Program} {l : Launch} {e : Env} {s : State} {m : MethodId} {args : Array Value} {below : List Frame} {meth : Method} {c : Code} {A : Nat → Prop} (g : Gm) (C : cX p s m args meth c A cX11_transfer (some .int) 17 RX11 wq_X11_transfer (gD g) vwCl (mty g) (mz g)) (st : CS) (x3 : Int32) (x4 : Int32) (x5 : Int32) (x6 : Int32) (x7 : Int32) (x8 : Int32) (x11 : Int32) (y0 : Int32) (H : Heap) (locs : List Loc) (ls : Array Slot) (hI : cI (gD g) vwCl (mw g) A s st H locs) (hl : lv_has ls 17 [(0, .ref (gad g 0)), (3, .int x3), (4, .int x4), (5, .int x5), (6, .int x6), (7, .int x7), (8, .int x8), (11, .int x11)]) (hO : o_m_transfer_b190 st x3 x4 x5 x6 x7 x8 x11 y0) (X : CS × Int32) (hF : X = m_transfer_b190 st x3 x4 x5 x6 x7 x8 x11 y0) : W p l e rm_m_transfer s m args below meth c H locs 0 0 (MQ below (cQi (gD g) vwCl (mty g) (mw g) A X.1 X.2) args s 0 0 A) (F0 m 190 ls [.int y0]) := by
  obtain ⟨hx, hb, hr, hml, hown, hts, hlocks, hK, hA, hZ, hzo⟩ := id C
  unfold m_transfer_b190 at hF
  unfold o_m_transfer_b190 at hO
  refine lv_istore (lv' := [(12, .int y0), (0, .ref (gad g 0)), (3, .int x3), (4, .int x4), (5, .int x5), (6, .int x6), (7, .int x7), (8, .int x8), (11, .int x11)]) hx hb dX11_transfer_190 hl (by decide) rfl (fun ls hl => ?_)
  refine lv_iload hx hb dX11_transfer_192 (lv_at hl 0 rfl) ?_
  refine lv_bipush (v := (26 : Int32)) hx hb dX11_transfer_194 (by decide) ?_
  refine lv_iushr (v := (ushr y0 (26 : Int32))) hx hb dX11_transfer_196 rfl ?_
  refine lv_if_eq (tgt := 211) hx hb dX11_transfer_197 (by decide) (fun c_197 => ?_) (fun c_197 => ?_)
  · have hF := hF.trans (if_pos c_197)
    have hO := hO.1 c_197
    refine lv_aload_n hx hb dX11_transfer_211 rfl (lv_at hl 1 rfl) ?_
    refine lv_iload_n hx hb dX11_transfer_212 rfl (lv_at hl 2 rfl) ?_
    refine lv_if_ne (tgt := 225) hx hb dX11_transfer_213 (by decide) (fun c_213 => ?_) (fun c_213 => ?_)
    · have hF := hF.trans (if_neg c_213)
      have hO := hO.2 c_213
      exact k_m_transfer_b225 g C st x3 x4 x5 x6 x7 x8 x11 y0 H locs ls hI (lv_sub hl [1, 2, 3, 4, 5, 6, 7, 8, 0] rfl) hO X hF
    · have hF := hF.trans (if_pos c_213)
      have hO := hO.1 c_213
      refine lv_iload hx hb dX11_transfer_216 (lv_at hl 3 rfl) ?_
      refine lv_if_eq (tgt := 225) hx hb dX11_transfer_218 (by decide) (fun c_218 => ?_) (fun c_218 => ?_)
      · have hF := hF.trans (if_pos c_218)
        have hO := hO.1 c_218
        exact k_m_transfer_b225 g C st x3 x4 x5 x6 x7 x8 x11 y0 H locs ls hI (lv_sub hl [1, 2, 3, 4, 5, 6, 7, 8, 0] rfl) hO X hF
      · have hF := hF.trans (if_neg c_218)
        have hO := hO.2 c_218
        refine lv_iconst (v := (0 : Int32)) hx hb dX11_transfer_221 (by decide) ?_
        refine lv_goto (tgt := 229) hx hb dX11_transfer_222 (by decide) ?_
        exact k_m_transfer_b229 g C st x3 x4 x5 x6 x7 x8 x11 y0 (0 : Int32) H locs ls hI (lv_sub hl [1, 2, 3, 4, 5, 6, 7, 8, 0] rfl) hO X hF
  · have hF := hF.trans (if_neg c_197)
    have hO := hO.2 c_197
    refine lv_aload_n hx hb dX11_transfer_200 rfl (lv_at hl 1 rfl) ?_
    refine lv_iconst (v := (4 : Int32)) hx hb dX11_transfer_201 (by decide) ?_
    refine lv_iconst (v := (3 : Int32)) hx hb dX11_transfer_202 (by decide) ?_
    refine lv_bipush (v := (20 : Int32)) hx hb dX11_transfer_203 (by decide) ?_
    refine lv_bipush (v := (8 : Int32)) hx hb dX11_transfer_205 (by decide) ?_
    have hq_207_0 := hO.1
    have hO := hO.2
    refine cx_Vi (As := [.int (4 : Int32), .int (3 : Int32), .int (20 : Int32), .int (8 : Int32)]) (rest := []) C (c_m_trap l g st (4 : Int32) (3 : Int32) (20 : Int32) (8 : Int32) hq_207_0) (cwV 4 hts (gd_V _ mw765 mw766 mw767 mw3 mw768) rfl rfl rfl yd_yX11_trap ⟨Nat.le_of_ble_eq_true rfl, Nat.le_of_ble_eq_true rfl⟩) (va_recv hK hI.1 (ci := 11) (q0 := 0) rfl rfl) hI rfl hl.1 rfl (Nat.le_of_ble_eq_true rfl) dX11_transfer_207 (fun H locs hI => ?_)
    exact cx_iret C hI (congrArg Prod.fst hF) (congrArg Prod.snd hF) dX11_transfer_210
def m_transfer_b177 (st : CS) (x3 : Int32) (x4 : Int32) (x5 : Int32) (x6 : Int32) (x7 : Int32) (x8 : Int32) (x9 : Int32) (y0 : Int32) : CS × Int32 := (if (x3 = 0) then (m_transfer_b190 st x3 x4 x5 x6 x7 x8 y0 x9) else (m_transfer_b190 st x3 x4 x5 x6 x7 x8 y0 y0))
def o_m_transfer_b177 (st : CS) (x3 : Int32) (x4 : Int32) (x5 : Int32) (x6 : Int32) (x7 : Int32) (x8 : Int32) (x9 : Int32) (y0 : Int32) : Prop := (((x3 = 0) → (o_m_transfer_b190 st x3 x4 x5 x6 x7 x8 y0 x9)) ∧ (¬ (x3 = 0) → (o_m_transfer_b190 st x3 x4 x5 x6 x7 x8 y0 y0)))
set_option maxHeartbeats 4000000 in
set_option maxRecDepth 100000 in
theorem k_m_transfer_b177 {p : Program} {l : Launch} {e : Env} {s : State} {m : MethodId} {args : Array Value} {below : List Frame} {meth : Method} {c : Code} {A : Nat → Prop} (g : Gm) (C : cX p s m args meth c A cX11_transfer (some .int) 17 RX11 wq_X11_transfer (gD g) vwCl (mty g) (mz g)) (st : CS) (x3 : Int32) (x4 : Int32) (x5 : Int32) (x6 : Int32) (x7 : Int32) (x8 : Int32) (x9 : Int32) (y0 : Int32) (H : Heap) (locs : List Loc) (ls : Array Slot) (hI : cI (gD g) vwCl (mw g) A s st H locs) (hl : lv_has ls 17 [(0, .ref (gad g 0)), (3, .int x3), (4, .int x4), (5, .int x5), (6, .int x6), (7, .int x7), (8, .int x8), (9, .int x9)]) (hO : o_m_transfer_b177 st x3 x4 x5 x6 x7 x8 x9 y0) (X : CS × Int32) (hF : X = m_transfer_b177 st x3 x4 x5 x6 x7 x8 x9 y0) : W p l e rm_m_transfer s m args below meth c H locs 0 0 (MQ below (cQi (gD g) vwCl (mty g) (mw g) A X.1 X.2) args s 0 0 A) (F0 m 177 ls [.int y0]) := by
  obtain ⟨hx, hb, hr, hml, hown, hts, hlocks, hK, hA, hZ, hzo⟩ := id C
  unfold m_transfer_b177 at hF
  unfold o_m_transfer_b177 at hO
  refine lv_istore (lv' := [(11, .int y0), (0, .ref (gad g 0)), (3, .int x3), (4, .int x4), (5, .int x5), (6, .int x6), (7, .int x7), (8, .int x8), (9, .int x9)]) hx hb dX11_transfer_177 hl (by decide) rfl (fun ls hl => ?_)
  refine lv_iload_n hx hb dX11_transfer_179 rfl (lv_at hl 2 rfl) ?_
  refine lv_if_eq (tgt := 188) hx hb dX11_transfer_180 (by decide) (fun c_180 => ?_) (fun c_180 => ?_)
  · have hF := hF.trans (if_pos c_180)
    have hO := hO.1 c_180
    refine lv_iload hx hb dX11_transfer_188 (lv_at hl 8 rfl) ?_
    exact k_m_transfer_b190 g C st x3 x4 x5 x6 x7 x8 y0 x9 H locs ls hI (lv_sub hl [1, 2, 3, 4, 5, 6, 7, 0] rfl) hO X hF
  · have hF := hF.trans (if_neg c_180)
    have hO := hO.2 c_180
    refine lv_iload hx hb dX11_transfer_183 (lv_at hl 0 rfl) ?_
    refine lv_goto (tgt := 190) hx hb dX11_transfer_185 (by decide) ?_
    exact k_m_transfer_b190 g C st x3 x4 x5 x6 x7 x8 y0 y0 H locs ls hI (lv_sub hl [1, 2, 3, 4, 5, 6, 7, 0] rfl) hO X hF
def m_transfer_b152 (st : CS) (x1 : Int32) (x3 : Int32) (x4 : Int32) (x5 : Int32) (x6 : Int32) (x7 : Int32) (x8 : Int32) (x9 : Int32) (y0 : Int32) : CS × Int32 := (if (((x1 >>> ((23 : Int32) &&& 31)) &&& (1 : Int32)) = (1 : Int32)) then (m_transfer_b177 st x3 x4 x5 x6 x7 x8 x9 (x9 + y0)) else (m_transfer_b177 st x3 x4 x5 x6 x7 x8 x9 (x9 - y0)))
def o_m_transfer_b152 (st : CS) (x1 : Int32) (x3 : Int32) (x4 : Int32) (x5 : Int32) (x6 : Int32) (x7 : Int32) (x8 : Int32) (x9 : Int32) (y0 : Int32) : Prop := (((((x1 >>> ((23 : Int32) &&& 31)) &&& (1 : Int32)) = (1 : Int32)) → (o_m_transfer_b177 st x3 x4 x5 x6 x7 x8 x9 (x9 + y0))) ∧ (¬ (((x1 >>> ((23 : Int32) &&& 31)) &&& (1 : Int32)) = (1 : Int32)) → (o_m_transfer_b177 st x3 x4 x5 x6 x7 x8 x9 (x9 - y0))))
set_option maxHeartbeats 4000000 in
set_option maxRecDepth 100000 in
theorem k_m_transfer_b152 {p : Program} {l : Launch} {e : Env} {s : State} {m : MethodId} {args : Array Value} {below : List Frame} {meth : Method} {c : Code} {A : Nat → Prop} (g : Gm) (C : cX p s m args meth c A cX11_transfer (some .int) 17 RX11 wq_X11_transfer (gD g) vwCl (mty g) (mz g)) (st : CS) (x1 : Int32) (x3 : Int32) (x4 : Int32) (x5 : Int32) (x6 : Int32) (x7 : Int32) (x8 : Int32) (x9 : Int32) (y0 : Int32) (H : Heap) (locs : List Loc) (ls : Array Slot) (hI : cI (gD g) vwCl (mw g) A s st H locs) (hl : lv_has ls 17 [(0, .ref (gad g 0)), (1, .int x1), (3, .int x3), (4, .int x4), (5, .int x5), (6, .int x6), (7, .int x7), (8, .int x8), (9, .int x9)]) (hO : o_m_transfer_b152 st x1 x3 x4 x5 x6 x7 x8 x9 y0) (X : CS × Int32) (hF : X = m_transfer_b152 st x1 x3 x4 x5 x6 x7 x8 x9 y0) : W p l e rm_m_transfer s m args below meth c H locs 0 0 (MQ below (cQi (gD g) vwCl (mty g) (mw g) A X.1 X.2) args s 0 0 A) (F0 m 152 ls [.int y0]) := by
  obtain ⟨hx, hb, hr, hml, hown, hts, hlocks, hK, hA, hZ, hzo⟩ := id C
  unfold m_transfer_b152 at hF
  unfold o_m_transfer_b152 at hO
  refine lv_istore (lv' := [(10, .int y0), (0, .ref (gad g 0)), (1, .int x1), (3, .int x3), (4, .int x4), (5, .int x5), (6, .int x6), (7, .int x7), (8, .int x8), (9, .int x9)]) hx hb dX11_transfer_152 hl (by decide) rfl (fun ls hl => ?_)
  refine lv_iload_n hx hb dX11_transfer_154 rfl (lv_at hl 2 rfl) ?_
  refine lv_bipush (v := (23 : Int32)) hx hb dX11_transfer_155 (by decide) ?_
  refine lv_ishr hx hb dX11_transfer_157 ?_
  refine lv_iconst (v := (1 : Int32)) hx hb dX11_transfer_158 (by decide) ?_
  refine lv_iand hx hb dX11_transfer_159 ?_
  refine lv_iconst (v := (1 : Int32)) hx hb dX11_transfer_160 (by decide) ?_
  refine lv_icmp_ne (tgt := 172) hx hb dX11_transfer_161 (by decide) (fun c_161 => ?_) (fun c_161 => ?_)
  · have hF := hF.trans (if_neg c_161)
    have hO := hO.2 c_161
    refine lv_iload hx hb dX11_transfer_172 (lv_at hl 9 rfl) ?_
    refine lv_iload hx hb dX11_transfer_174 (lv_at hl 0 rfl) ?_
    refine lv_isub hx hb dX11_transfer_176 ?_
    exact k_m_transfer_b177 g C st x3 x4 x5 x6 x7 x8 x9 (x9 - y0) H locs ls hI (lv_sub hl [1, 3, 4, 5, 6, 7, 8, 9] rfl) hO X hF
  · have hF := hF.trans (if_pos c_161)
    have hO := hO.1 c_161
    refine lv_iload hx hb dX11_transfer_164 (lv_at hl 9 rfl) ?_
    refine lv_iload hx hb dX11_transfer_166 (lv_at hl 0 rfl) ?_
    refine lv_iadd hx hb dX11_transfer_168 ?_
    refine lv_goto (tgt := 177) hx hb dX11_transfer_169 (by decide) ?_
    exact k_m_transfer_b177 g C st x3 x4 x5 x6 x7 x8 x9 (x9 + y0) H locs ls hI (lv_sub hl [1, 3, 4, 5, 6, 7, 8, 9] rfl) hO X hF
def m_transfer_b144 (st : CS) (x1 : Int32) (x3 : Int32) (x4 : Int32) (x5 : Int32) (x6 : Int32) (x7 : Int32) (x8 : Int32) (x9 : Int32) (y0 : Int32) : CS × Int32 := (m_transfer_b152 st x1 x3 x4 x5 x6 x7 x8 x9 y0)
def o_m_transfer_b144 (st : CS) (x1 : Int32) (x3 : Int32) (x4 : Int32) (x5 : Int32) (x6 : Int32) (x7 : Int32) (x8 : Int32) (x9 : Int32) (y0 : Int32) : Prop := (o_m_transfer_b152 st x1 x3 x4 x5 x6 x7 x8 x9 y0)
set_option maxHeartbeats 4000000 in
set_option maxRecDepth 100000 in
theorem k_m_transfer_b144 {p : Program} {l : Launch} {e : Env} {s : State} {m : MethodId} {args : Array Value} {below : List Frame} {meth : Method} {c : Code} {A : Nat → Prop} (g : Gm) (C : cX p s m args meth c A cX11_transfer (some .int) 17 RX11 wq_X11_transfer (gD g) vwCl (mty g) (mz g)) (st : CS) (x1 : Int32) (x3 : Int32) (x4 : Int32) (x5 : Int32) (x6 : Int32) (x7 : Int32) (x8 : Int32) (x9 : Int32) (y0 : Int32) (H : Heap) (locs : List Loc) (ls : Array Slot) (hI : cI (gD g) vwCl (mw g) A s st H locs) (hl : lv_has ls 17 [(0, .ref (gad g 0)), (1, .int x1), (3, .int x3), (4, .int x4), (5, .int x5), (6, .int x6), (7, .int x7), (8, .int x8), (9, .int x9)]) (hO : o_m_transfer_b144 st x1 x3 x4 x5 x6 x7 x8 x9 y0) (X : CS × Int32) (hF : X = m_transfer_b144 st x1 x3 x4 x5 x6 x7 x8 x9 y0) : W p l e rm_m_transfer s m args below meth c H locs 0 0 (MQ below (cQi (gD g) vwCl (mty g) (mw g) A X.1 X.2) args s 0 0 A) (F0 m 144 ls [.int y0]) := by
  obtain ⟨hx, hb, hr, hml, hown, hts, hlocks, hK, hA, hZ, hzo⟩ := id C
  unfold m_transfer_b144 at hF
  unfold o_m_transfer_b144 at hO
  refine lv_goto (tgt := 152) hx hb dX11_transfer_144 (by decide) ?_
  exact k_m_transfer_b152 g C st x1 x3 x4 x5 x6 x7 x8 x9 y0 H locs ls hI (lv_sub hl [0, 1, 2, 3, 4, 5, 6, 7, 8] rfl) hO X hF
def m_transfer_b99 (st : CS) (x1 : Int32) (x2 : Int32) (x3 : Int32) (x4 : Int32) (x5 : Int32) (y0 : Int32) : CS × Int32 := (if (x2 = 0) then (m_transfer_b152 st x1 x3 x4 x5 y0 ((x1 >>> ((16 : Int32) &&& 31)) &&& (15 : Int32)) ((x1 >>> ((12 : Int32) &&& 31)) &&& (15 : Int32)) (m_operand st ((x1 >>> ((16 : Int32) &&& 31)) &&& (15 : Int32))) (x1 &&& (4095 : Int32))) else (m_transfer_b144 (m_byNumber st x1 (m_operand st (x1 &&& (15 : Int32)))).1 x1 x3 x4 x5 y0 ((x1 >>> ((16 : Int32) &&& 31)) &&& (15 : Int32)) ((x1 >>> ((12 : Int32) &&& 31)) &&& (15 : Int32)) (m_operand st ((x1 >>> ((16 : Int32) &&& 31)) &&& (15 : Int32))) (m_byNumber st x1 (m_operand st (x1 &&& (15 : Int32)))).2))
def o_m_transfer_b99 (st : CS) (x1 : Int32) (x2 : Int32) (x3 : Int32) (x4 : Int32) (x5 : Int32) (y0 : Int32) : Prop := ((o_m_operand st ((x1 >>> ((16 : Int32) &&& 31)) &&& (15 : Int32))) ∧ (((x2 = 0) → (o_m_transfer_b152 st x1 x3 x4 x5 y0 ((x1 >>> ((16 : Int32) &&& 31)) &&& (15 : Int32)) ((x1 >>> ((12 : Int32) &&& 31)) &&& (15 : Int32)) (m_operand st ((x1 >>> ((16 : Int32) &&& 31)) &&& (15 : Int32))) (x1 &&& (4095 : Int32)))) ∧ (¬ (x2 = 0) → ((o_m_operand st (x1 &&& (15 : Int32))) ∧ ((o_m_byNumber st x1 (m_operand st (x1 &&& (15 : Int32)))) ∧ (o_m_transfer_b144 (m_byNumber st x1 (m_operand st (x1 &&& (15 : Int32)))).1 x1 x3 x4 x5 y0 ((x1 >>> ((16 : Int32) &&& 31)) &&& (15 : Int32)) ((x1 >>> ((12 : Int32) &&& 31)) &&& (15 : Int32)) (m_operand st ((x1 >>> ((16 : Int32) &&& 31)) &&& (15 : Int32))) (m_byNumber st x1 (m_operand st (x1 &&& (15 : Int32)))).2))))))
set_option maxHeartbeats 4000000 in
set_option maxRecDepth 100000 in
theorem k_m_transfer_b99 {p : Program} {l : Launch} {e : Env} {s : State} {m : MethodId} {args : Array Value} {below : List Frame} {meth : Method} {c : Code} {A : Nat → Prop} (g : Gm) (C : cX p s m args meth c A cX11_transfer (some .int) 17 RX11 wq_X11_transfer (gD g) vwCl (mty g) (mz g)) (st : CS) (x1 : Int32) (x2 : Int32) (x3 : Int32) (x4 : Int32) (x5 : Int32) (y0 : Int32) (H : Heap) (locs : List Loc) (ls : Array Slot) (hI : cI (gD g) vwCl (mw g) A s st H locs) (hl : lv_has ls 17 [(0, .ref (gad g 0)), (1, .int x1), (2, .int x2), (3, .int x3), (4, .int x4), (5, .int x5)]) (hO : o_m_transfer_b99 st x1 x2 x3 x4 x5 y0) (X : CS × Int32) (hF : X = m_transfer_b99 st x1 x2 x3 x4 x5 y0) : W p l e rm_m_transfer s m args below meth c H locs 0 0 (MQ below (cQi (gD g) vwCl (mty g) (mw g) A X.1 X.2) args s 0 0 A) (F0 m 99 ls [.int y0]) := by
  obtain ⟨hx, hb, hr, hml, hown, hts, hlocks, hK, hA, hZ, hzo⟩ := id C
  unfold m_transfer_b99 at hF
  unfold o_m_transfer_b99 at hO
  refine lv_istore (lv' := [(6, .int y0), (0, .ref (gad g 0)), (1, .int x1), (2, .int x2), (3, .int x3), (4, .int x4), (5, .int x5)]) hx hb dX11_transfer_99 hl (by decide) rfl (fun ls hl => ?_)
  refine lv_iload_n hx hb dX11_transfer_101 rfl (lv_at hl 2 rfl) ?_
  refine lv_bipush (v := (16 : Int32)) hx hb dX11_transfer_102 (by decide) ?_
  refine lv_ishr hx hb dX11_transfer_104 ?_
  refine lv_bipush (v := (15 : Int32)) hx hb dX11_transfer_105 (by decide) ?_
  refine lv_iand hx hb dX11_transfer_107 ?_
  refine lv_istore (lv' := [(7, .int ((x1 >>> ((16 : Int32) &&& 31)) &&& (15 : Int32))), (6, .int y0), (0, .ref (gad g 0)), (1, .int x1), (2, .int x2), (3, .int x3), (4, .int x4), (5, .int x5)]) hx hb dX11_transfer_108 hl (by decide) rfl (fun ls hl => ?_)
  refine lv_iload_n hx hb dX11_transfer_110 rfl (lv_at hl 3 rfl) ?_
  refine lv_bipush (v := (12 : Int32)) hx hb dX11_transfer_111 (by decide) ?_
  refine lv_ishr hx hb dX11_transfer_113 ?_
  refine lv_bipush (v := (15 : Int32)) hx hb dX11_transfer_114 (by decide) ?_
  refine lv_iand hx hb dX11_transfer_116 ?_
  refine lv_istore (lv' := [(8, .int ((x1 >>> ((12 : Int32) &&& 31)) &&& (15 : Int32))), (7, .int ((x1 >>> ((16 : Int32) &&& 31)) &&& (15 : Int32))), (6, .int y0), (0, .ref (gad g 0)), (1, .int x1), (2, .int x2), (3, .int x3), (4, .int x4), (5, .int x5)]) hx hb dX11_transfer_117 hl (by decide) rfl (fun ls hl => ?_)
  refine lv_aload_n hx hb dX11_transfer_119 rfl (lv_at hl 3 rfl) ?_
  refine lv_iload hx hb dX11_transfer_120 (lv_at hl 1 rfl) ?_
  have hq_122_0 := hO.1
  have hO := hO.2
  refine cx_Vi (As := [.int ((x1 >>> ((16 : Int32) &&& 31)) &&& (15 : Int32))]) (rest := []) C (c_m_operand l g st ((x1 >>> ((16 : Int32) &&& 31)) &&& (15 : Int32)) hq_122_0) (cwV 1 hts (gd_V _ mw826 mw827 mw828 mw3 mw829) rfl rfl rfl yd_yX11_operand ⟨Nat.le_of_ble_eq_true rfl, Nat.le_of_ble_eq_true rfl⟩) (va_recv hK hI.1 (ci := 11) (q0 := 0) rfl rfl) hI rfl hl.1 rfl (Nat.le_of_ble_eq_true rfl) dX11_transfer_122 (fun H locs hI => ?_)
  refine lv_istore (lv' := [(9, .int (m_operand st ((x1 >>> ((16 : Int32) &&& 31)) &&& (15 : Int32)))), (8, .int ((x1 >>> ((12 : Int32) &&& 31)) &&& (15 : Int32))), (7, .int ((x1 >>> ((16 : Int32) &&& 31)) &&& (15 : Int32))), (6, .int y0), (0, .ref (gad g 0)), (1, .int x1), (2, .int x2), (3, .int x3), (4, .int x4), (5, .int x5)]) hx hb dX11_transfer_125 hl (by decide) rfl (fun ls hl => ?_)
  refine lv_iload_n hx hb dX11_transfer_127 rfl (lv_at hl 6 rfl) ?_
  refine lv_if_eq (tgt := 147) hx hb dX11_transfer_128 (by decide) (fun c_128 => ?_) (fun c_128 => ?_)
  · have hF := hF.trans (if_pos c_128)
    have hO := hO.1 c_128
    refine lv_iload_n hx hb dX11_transfer_147 rfl (lv_at hl 5 rfl) ?_
    refine lv_sipush (v := (4095 : Int32)) hx hb dX11_transfer_148 (by decide) ?_
    refine lv_iand hx hb dX11_transfer_151 ?_
    exact k_m_transfer_b152 g C st x1 x3 x4 x5 y0 ((x1 >>> ((16 : Int32) &&& 31)) &&& (15 : Int32)) ((x1 >>> ((12 : Int32) &&& 31)) &&& (15 : Int32)) (m_operand st ((x1 >>> ((16 : Int32) &&& 31)) &&& (15 : Int32))) (x1 &&& (4095 : Int32)) H locs ls hI (lv_sub hl [4, 5, 7, 8, 9, 3, 2, 1, 0] rfl) hO X hF
  · have hF := hF.trans (if_neg c_128)
    have hO := hO.2 c_128
    refine lv_aload_n hx hb dX11_transfer_131 rfl (lv_at hl 4 rfl) ?_
    refine lv_iload_n hx hb dX11_transfer_132 rfl (lv_at hl 5 rfl) ?_
    refine lv_aload_n hx hb dX11_transfer_133 rfl (lv_at hl 4 rfl) ?_
    refine lv_iload_n hx hb dX11_transfer_134 rfl (lv_at hl 5 rfl) ?_
    refine lv_bipush (v := (15 : Int32)) hx hb dX11_transfer_135 (by decide) ?_
    refine lv_iand hx hb dX11_transfer_137 ?_
    have hq_138_0 := hO.1
    have hO := hO.2
    refine cx_Vi (As := [.int (x1 &&& (15 : Int32))]) (rest := [.int x1, .ref (gad g 0)]) C (c_m_operand l g st (x1 &&& (15 : Int32)) hq_138_0) (cwV 1 hts (gd_V _ mw826 mw827 mw828 mw3 mw829) rfl rfl rfl yd_yX11_operand ⟨Nat.le_of_ble_eq_true rfl, Nat.le_of_ble_eq_true rfl⟩) (va_recv hK hI.1 (ci := 11) (q0 := 0) rfl rfl) hI rfl hl.1 rfl (Nat.le_of_ble_eq_true rfl) dX11_transfer_138 (fun H locs hI => ?_)
    have hq_141_1 := hO.1
    have hO := hO.2
    refine cx_Vi (As := [.int x1, .int (m_operand st (x1 &&& (15 : Int32)))]) (rest := []) C (c_m_byNumber l g st x1 (m_operand st (x1 &&& (15 : Int32))) hq_141_1) (cwV 2 hts (gd_V _ mw853 mw854 mw855 mw3 mw856) rfl rfl rfl yd_yX11_byNumber ⟨Nat.le_of_ble_eq_true rfl, Nat.le_of_ble_eq_true rfl⟩) (va_recv hK hI.1 (ci := 11) (q0 := 0) rfl rfl) hI rfl hl.1 rfl (Nat.le_of_ble_eq_true rfl) dX11_transfer_141 (fun H locs hI => ?_)
    exact k_m_transfer_b144 g C (m_byNumber st x1 (m_operand st (x1 &&& (15 : Int32)))).1 x1 x3 x4 x5 y0 ((x1 >>> ((16 : Int32) &&& 31)) &&& (15 : Int32)) ((x1 >>> ((12 : Int32) &&& 31)) &&& (15 : Int32)) (m_operand st ((x1 >>> ((16 : Int32) &&& 31)) &&& (15 : Int32))) (m_byNumber st x1 (m_operand st (x1 &&& (15 : Int32)))).2 H locs ls hI (lv_sub hl [4, 5, 7, 8, 9, 3, 2, 1, 0] rfl) hO X hF
def m_transfer_b82 (st : CS) (x1 : Int32) (x2 : Int32) (x3 : Int32) (x4 : Int32) (y0 : Int32) : CS × Int32 := (if (((x1 >>> ((20 : Int32) &&& 31)) &&& (1 : Int32)) = (1 : Int32)) then (m_transfer_b99 st x1 x2 x3 x4 y0 (1 : Int32)) else (m_transfer_b99 st x1 x2 x3 x4 y0 (0 : Int32)))
def o_m_transfer_b82 (st : CS) (x1 : Int32) (x2 : Int32) (x3 : Int32) (x4 : Int32) (y0 : Int32) : Prop := (((((x1 >>> ((20 : Int32) &&& 31)) &&& (1 : Int32)) = (1 : Int32)) → (o_m_transfer_b99 st x1 x2 x3 x4 y0 (1 : Int32))) ∧ (¬ (((x1 >>> ((20 : Int32) &&& 31)) &&& (1 : Int32)) = (1 : Int32)) → (o_m_transfer_b99 st x1 x2 x3 x4 y0 (0 : Int32))))
set_option maxHeartbeats 4000000 in
set_option maxRecDepth 100000 in
theorem k_m_transfer_b82 {p : Program} {l : Launch} {e : Env} {s : State} {m : MethodId} {args : Array Value} {below : List Frame} {meth : Method} {c : Code} {A : Nat → Prop} (g : Gm) (C : cX p s m args meth c A cX11_transfer (some .int) 17 RX11 wq_X11_transfer (gD g) vwCl (mty g) (mz g)) (st : CS) (x1 : Int32) (x2 : Int32) (x3 : Int32) (x4 : Int32) (y0 : Int32) (H : Heap) (locs : List Loc) (ls : Array Slot) (hI : cI (gD g) vwCl (mw g) A s st H locs) (hl : lv_has ls 17 [(0, .ref (gad g 0)), (1, .int x1), (2, .int x2), (3, .int x3), (4, .int x4)]) (hO : o_m_transfer_b82 st x1 x2 x3 x4 y0) (X : CS × Int32) (hF : X = m_transfer_b82 st x1 x2 x3 x4 y0) : W p l e rm_m_transfer s m args below meth c H locs 0 0 (MQ below (cQi (gD g) vwCl (mty g) (mw g) A X.1 X.2) args s 0 0 A) (F0 m 82 ls [.int y0]) := by
  obtain ⟨hx, hb, hr, hml, hown, hts, hlocks, hK, hA, hZ, hzo⟩ := id C
  unfold m_transfer_b82 at hF
  unfold o_m_transfer_b82 at hO
  refine lv_istore (lv' := [(5, .int y0), (0, .ref (gad g 0)), (1, .int x1), (2, .int x2), (3, .int x3), (4, .int x4)]) hx hb dX11_transfer_82 hl (by decide) rfl (fun ls hl => ?_)
  refine lv_iload_n hx hb dX11_transfer_84 rfl (lv_at hl 2 rfl) ?_
  refine lv_bipush (v := (20 : Int32)) hx hb dX11_transfer_85 (by decide) ?_
  refine lv_ishr hx hb dX11_transfer_87 ?_
  refine lv_iconst (v := (1 : Int32)) hx hb dX11_transfer_88 (by decide) ?_
  refine lv_iand hx hb dX11_transfer_89 ?_
  refine lv_iconst (v := (1 : Int32)) hx hb dX11_transfer_90 (by decide) ?_
  refine lv_icmp_ne (tgt := 98) hx hb dX11_transfer_91 (by decide) (fun c_91 => ?_) (fun c_91 => ?_)
  · have hF := hF.trans (if_neg c_91)
    have hO := hO.2 c_91
    refine lv_iconst (v := (0 : Int32)) hx hb dX11_transfer_98 (by decide) ?_
    exact k_m_transfer_b99 g C st x1 x2 x3 x4 y0 (0 : Int32) H locs ls hI (lv_sub hl [1, 2, 3, 4, 5, 0] rfl) hO X hF
  · have hF := hF.trans (if_pos c_91)
    have hO := hO.1 c_91
    refine lv_iconst (v := (1 : Int32)) hx hb dX11_transfer_94 (by decide) ?_
    refine lv_goto (tgt := 99) hx hb dX11_transfer_95 (by decide) ?_
    exact k_m_transfer_b99 g C st x1 x2 x3 x4 y0 (1 : Int32) H locs ls hI (lv_sub hl [1, 2, 3, 4, 5, 0] rfl) hO X hF
def m_transfer_b65 (st : CS) (x1 : Int32) (x2 : Int32) (x3 : Int32) (y0 : Int32) : CS × Int32 := (if (((x1 >>> ((22 : Int32) &&& 31)) &&& (1 : Int32)) = (1 : Int32)) then (m_transfer_b82 st x1 x2 x3 y0 (1 : Int32)) else (m_transfer_b82 st x1 x2 x3 y0 (0 : Int32)))
def o_m_transfer_b65 (st : CS) (x1 : Int32) (x2 : Int32) (x3 : Int32) (y0 : Int32) : Prop := (((((x1 >>> ((22 : Int32) &&& 31)) &&& (1 : Int32)) = (1 : Int32)) → (o_m_transfer_b82 st x1 x2 x3 y0 (1 : Int32))) ∧ (¬ (((x1 >>> ((22 : Int32) &&& 31)) &&& (1 : Int32)) = (1 : Int32)) → (o_m_transfer_b82 st x1 x2 x3 y0 (0 : Int32))))
set_option maxHeartbeats 4000000 in
set_option maxRecDepth 100000 in
theorem k_m_transfer_b65 {p : Program} {l : Launch} {e : Env} {s : State} {m : MethodId} {args : Array Value} {below : List Frame} {meth : Method} {c : Code} {A : Nat → Prop} (g : Gm) (C : cX p s m args meth c A cX11_transfer (some .int) 17 RX11 wq_X11_transfer (gD g) vwCl (mty g) (mz g)) (st : CS) (x1 : Int32) (x2 : Int32) (x3 : Int32) (y0 : Int32) (H : Heap) (locs : List Loc) (ls : Array Slot) (hI : cI (gD g) vwCl (mw g) A s st H locs) (hl : lv_has ls 17 [(0, .ref (gad g 0)), (1, .int x1), (2, .int x2), (3, .int x3)]) (hO : o_m_transfer_b65 st x1 x2 x3 y0) (X : CS × Int32) (hF : X = m_transfer_b65 st x1 x2 x3 y0) : W p l e rm_m_transfer s m args below meth c H locs 0 0 (MQ below (cQi (gD g) vwCl (mty g) (mw g) A X.1 X.2) args s 0 0 A) (F0 m 65 ls [.int y0]) := by
  obtain ⟨hx, hb, hr, hml, hown, hts, hlocks, hK, hA, hZ, hzo⟩ := id C
  unfold m_transfer_b65 at hF
  unfold o_m_transfer_b65 at hO
  refine lv_istore (lv' := [(4, .int y0), (0, .ref (gad g 0)), (1, .int x1), (2, .int x2), (3, .int x3)]) hx hb dX11_transfer_65 hl (by decide) rfl (fun ls hl => ?_)
  refine lv_iload_n hx hb dX11_transfer_67 rfl (lv_at hl 2 rfl) ?_
  refine lv_bipush (v := (22 : Int32)) hx hb dX11_transfer_68 (by decide) ?_
  refine lv_ishr hx hb dX11_transfer_70 ?_
  refine lv_iconst (v := (1 : Int32)) hx hb dX11_transfer_71 (by decide) ?_
  refine lv_iand hx hb dX11_transfer_72 ?_
  refine lv_iconst (v := (1 : Int32)) hx hb dX11_transfer_73 (by decide) ?_
  refine lv_icmp_ne (tgt := 81) hx hb dX11_transfer_74 (by decide) (fun c_74 => ?_) (fun c_74 => ?_)
  · have hF := hF.trans (if_neg c_74)
    have hO := hO.2 c_74
    refine lv_iconst (v := (0 : Int32)) hx hb dX11_transfer_81 (by decide) ?_
    exact k_m_transfer_b82 g C st x1 x2 x3 y0 (0 : Int32) H locs ls hI (lv_sub hl [1, 2, 3, 4, 0] rfl) hO X hF
  · have hF := hF.trans (if_pos c_74)
    have hO := hO.1 c_74
    refine lv_iconst (v := (1 : Int32)) hx hb dX11_transfer_77 (by decide) ?_
    refine lv_goto (tgt := 82) hx hb dX11_transfer_78 (by decide) ?_
    exact k_m_transfer_b82 g C st x1 x2 x3 y0 (1 : Int32) H locs ls hI (lv_sub hl [1, 2, 3, 4, 0] rfl) hO X hF
def m_transfer_b49 (st : CS) (x1 : Int32) (x2 : Int32) (y0 : Int32) : CS × Int32 := (if (((x1 >>> ((21 : Int32) &&& 31)) &&& (1 : Int32)) = (1 : Int32)) then (m_transfer_b65 st x1 x2 y0 (1 : Int32)) else (m_transfer_b65 st x1 x2 y0 (0 : Int32)))
def o_m_transfer_b49 (st : CS) (x1 : Int32) (x2 : Int32) (y0 : Int32) : Prop := (((((x1 >>> ((21 : Int32) &&& 31)) &&& (1 : Int32)) = (1 : Int32)) → (o_m_transfer_b65 st x1 x2 y0 (1 : Int32))) ∧ (¬ (((x1 >>> ((21 : Int32) &&& 31)) &&& (1 : Int32)) = (1 : Int32)) → (o_m_transfer_b65 st x1 x2 y0 (0 : Int32))))
set_option maxHeartbeats 4000000 in
set_option maxRecDepth 100000 in
theorem k_m_transfer_b49 {p : Program} {l : Launch} {e : Env} {s : State} {m : MethodId} {args : Array Value} {below : List Frame} {meth : Method} {c : Code} {A : Nat → Prop} (g : Gm) (C : cX p s m args meth c A cX11_transfer (some .int) 17 RX11 wq_X11_transfer (gD g) vwCl (mty g) (mz g)) (st : CS) (x1 : Int32) (x2 : Int32) (y0 : Int32) (H : Heap) (locs : List Loc) (ls : Array Slot) (hI : cI (gD g) vwCl (mw g) A s st H locs) (hl : lv_has ls 17 [(0, .ref (gad g 0)), (1, .int x1), (2, .int x2)]) (hO : o_m_transfer_b49 st x1 x2 y0) (X : CS × Int32) (hF : X = m_transfer_b49 st x1 x2 y0) : W p l e rm_m_transfer s m args below meth c H locs 0 0 (MQ below (cQi (gD g) vwCl (mty g) (mw g) A X.1 X.2) args s 0 0 A) (F0 m 49 ls [.int y0]) := by
  obtain ⟨hx, hb, hr, hml, hown, hts, hlocks, hK, hA, hZ, hzo⟩ := id C
  unfold m_transfer_b49 at hF
  unfold o_m_transfer_b49 at hO
  refine lv_istore_n (lv' := [(3, .int y0), (0, .ref (gad g 0)), (1, .int x1), (2, .int x2)]) hx hb dX11_transfer_49 rfl hl (by decide) rfl (fun ls hl => ?_)
  refine lv_iload_n hx hb dX11_transfer_50 rfl (lv_at hl 2 rfl) ?_
  refine lv_bipush (v := (21 : Int32)) hx hb dX11_transfer_51 (by decide) ?_
  refine lv_ishr hx hb dX11_transfer_53 ?_
  refine lv_iconst (v := (1 : Int32)) hx hb dX11_transfer_54 (by decide) ?_
  refine lv_iand hx hb dX11_transfer_55 ?_
  refine lv_iconst (v := (1 : Int32)) hx hb dX11_transfer_56 (by decide) ?_
  refine lv_icmp_ne (tgt := 64) hx hb dX11_transfer_57 (by decide) (fun c_57 => ?_) (fun c_57 => ?_)
  · have hF := hF.trans (if_neg c_57)
    have hO := hO.2 c_57
    refine lv_iconst (v := (0 : Int32)) hx hb dX11_transfer_64 (by decide) ?_
    exact k_m_transfer_b65 g C st x1 x2 y0 (0 : Int32) H locs ls hI (lv_sub hl [1, 2, 3, 0] rfl) hO X hF
  · have hF := hF.trans (if_pos c_57)
    have hO := hO.1 c_57
    refine lv_iconst (v := (1 : Int32)) hx hb dX11_transfer_60 (by decide) ?_
    refine lv_goto (tgt := 65) hx hb dX11_transfer_61 (by decide) ?_
    exact k_m_transfer_b65 g C st x1 x2 y0 (1 : Int32) H locs ls hI (lv_sub hl [1, 2, 3, 0] rfl) hO X hF
def m_transfer_b34 (st : CS) (x1 : Int32) (x2 : Int32) : CS × Int32 := (if (((x1 >>> ((24 : Int32) &&& 31)) &&& (1 : Int32)) = (1 : Int32)) then (m_transfer_b49 st x1 x2 (1 : Int32)) else (m_transfer_b49 st x1 x2 (0 : Int32)))
def o_m_transfer_b34 (st : CS) (x1 : Int32) (x2 : Int32) : Prop := (((((x1 >>> ((24 : Int32) &&& 31)) &&& (1 : Int32)) = (1 : Int32)) → (o_m_transfer_b49 st x1 x2 (1 : Int32))) ∧ (¬ (((x1 >>> ((24 : Int32) &&& 31)) &&& (1 : Int32)) = (1 : Int32)) → (o_m_transfer_b49 st x1 x2 (0 : Int32))))
set_option maxHeartbeats 4000000 in
set_option maxRecDepth 100000 in
theorem k_m_transfer_b34 {p : Program} {l : Launch} {e : Env} {s : State} {m : MethodId} {args : Array Value} {below : List Frame} {meth : Method} {c : Code} {A : Nat → Prop} (g : Gm) (C : cX p s m args meth c A cX11_transfer (some .int) 17 RX11 wq_X11_transfer (gD g) vwCl (mty g) (mz g)) (st : CS) (x1 : Int32) (x2 : Int32) (H : Heap) (locs : List Loc) (ls : Array Slot) (hI : cI (gD g) vwCl (mw g) A s st H locs) (hl : lv_has ls 17 [(0, .ref (gad g 0)), (1, .int x1), (2, .int x2)]) (hO : o_m_transfer_b34 st x1 x2) (X : CS × Int32) (hF : X = m_transfer_b34 st x1 x2) : W p l e rm_m_transfer s m args below meth c H locs 0 0 (MQ below (cQi (gD g) vwCl (mty g) (mw g) A X.1 X.2) args s 0 0 A) (F0 m 34 ls []) := by
  obtain ⟨hx, hb, hr, hml, hown, hts, hlocks, hK, hA, hZ, hzo⟩ := id C
  unfold m_transfer_b34 at hF
  unfold o_m_transfer_b34 at hO
  refine lv_iload_n hx hb dX11_transfer_34 rfl (lv_at hl 1 rfl) ?_
  refine lv_bipush (v := (24 : Int32)) hx hb dX11_transfer_35 (by decide) ?_
  refine lv_ishr hx hb dX11_transfer_37 ?_
  refine lv_iconst (v := (1 : Int32)) hx hb dX11_transfer_38 (by decide) ?_
  refine lv_iand hx hb dX11_transfer_39 ?_
  refine lv_iconst (v := (1 : Int32)) hx hb dX11_transfer_40 (by decide) ?_
  refine lv_icmp_ne (tgt := 48) hx hb dX11_transfer_41 (by decide) (fun c_41 => ?_) (fun c_41 => ?_)
  · have hF := hF.trans (if_neg c_41)
    have hO := hO.2 c_41
    refine lv_iconst (v := (0 : Int32)) hx hb dX11_transfer_48 (by decide) ?_
    exact k_m_transfer_b49 g C st x1 x2 (0 : Int32) H locs ls hI (lv_sub hl [0, 1, 2] rfl) hO X hF
  · have hF := hF.trans (if_pos c_41)
    have hO := hO.1 c_41
    refine lv_iconst (v := (1 : Int32)) hx hb dX11_transfer_44 (by decide) ?_
    refine lv_goto (tgt := 49) hx hb dX11_transfer_45 (by decide) ?_
    exact k_m_transfer_b49 g C st x1 x2 (1 : Int32) H locs ls hI (lv_sub hl [0, 1, 2] rfl) hO X hF
def m_transfer_b15 (st : CS) (x1 : Int32) (y0 : Int32) : CS × Int32 := (if (y0 = 0) then (m_transfer_b34 st x1 y0) else (if (((x1 >>> ((4 : Int32) &&& 31)) &&& (1 : Int32)) = (1 : Int32)) then ((m_undefined st).1, (m_undefined st).2) else (m_transfer_b34 st x1 y0)))
def o_m_transfer_b15 (st : CS) (x1 : Int32) (y0 : Int32) : Prop := (((y0 = 0) → (o_m_transfer_b34 st x1 y0)) ∧ (¬ (y0 = 0) → (((((x1 >>> ((4 : Int32) &&& 31)) &&& (1 : Int32)) = (1 : Int32)) → ((o_m_undefined st) ∧ True)) ∧ (¬ (((x1 >>> ((4 : Int32) &&& 31)) &&& (1 : Int32)) = (1 : Int32)) → (o_m_transfer_b34 st x1 y0)))))
set_option maxHeartbeats 4000000 in
set_option maxRecDepth 100000 in
theorem k_m_transfer_b15 {p : Program} {l : Launch} {e : Env} {s : State} {m : MethodId} {args : Array Value} {below : List Frame} {meth : Method} {c : Code} {A : Nat → Prop} (g : Gm) (C : cX p s m args meth c A cX11_transfer (some .int) 17 RX11 wq_X11_transfer (gD g) vwCl (mty g) (mz g)) (st : CS) (x1 : Int32) (y0 : Int32) (H : Heap) (locs : List Loc) (ls : Array Slot) (hI : cI (gD g) vwCl (mw g) A s st H locs) (hl : lv_has ls 17 [(0, .ref (gad g 0)), (1, .int x1)]) (hO : o_m_transfer_b15 st x1 y0) (X : CS × Int32) (hF : X = m_transfer_b15 st x1 y0) : W p l e rm_m_transfer s m args below meth c H locs 0 0 (MQ below (cQi (gD g) vwCl (mty g) (mw g) A X.1 X.2) args s 0 0 A) (F0 m 15 ls [.int y0]) := by
  obtain ⟨hx, hb, hr, hml, hown, hts, hlocks, hK, hA, hZ, hzo⟩ := id C
  unfold m_transfer_b15 at hF
  unfold o_m_transfer_b15 at hO
  refine lv_istore_n (lv' := [(2, .int y0), (0, .ref (gad g 0)), (1, .int x1)]) hx hb dX11_transfer_15 rfl hl (by decide) rfl (fun ls hl => ?_)
  refine lv_iload_n hx hb dX11_transfer_16 rfl (lv_at hl 0 rfl) ?_
  refine lv_if_eq (tgt := 34) hx hb dX11_transfer_17 (by decide) (fun c_17 => ?_) (fun c_17 => ?_)
  · have hF := hF.trans (if_pos c_17)
    have hO := hO.1 c_17
    exact k_m_transfer_b34 g C st x1 y0 H locs ls hI (lv_sub hl [1, 2, 0] rfl) hO X hF
  · have hF := hF.trans (if_neg c_17)
    have hO := hO.2 c_17
    refine lv_iload_n hx hb dX11_transfer_20 rfl (lv_at hl 2 rfl) ?_
    refine lv_iconst (v := (4 : Int32)) hx hb dX11_transfer_21 (by decide) ?_
    refine lv_ishr hx hb dX11_transfer_22 ?_
    refine lv_iconst (v := (1 : Int32)) hx hb dX11_transfer_23 (by decide) ?_
    refine lv_iand hx hb dX11_transfer_24 ?_
    refine lv_iconst (v := (1 : Int32)) hx hb dX11_transfer_25 (by decide) ?_
    refine lv_icmp_ne (tgt := 34) hx hb dX11_transfer_26 (by decide) (fun c_26 => ?_) (fun c_26 => ?_)
    · have hF := hF.trans (if_neg c_26)
      have hO := hO.2 c_26
      exact k_m_transfer_b34 g C st x1 y0 H locs ls hI (lv_sub hl [1, 2, 0] rfl) hO X hF
    · have hF := hF.trans (if_pos c_26)
      have hO := hO.1 c_26
      refine lv_aload_n hx hb dX11_transfer_29 rfl (lv_at hl 1 rfl) ?_
      have hq_30_0 := hO.1
      have hO := hO.2
      refine cx_Vi (As := []) (rest := []) C (c_m_undefined l g st  hq_30_0) (cwV 0 hts (gd_V _ mw834 mw835 mw836 mw3 mw837) rfl rfl rfl yd_yX11_undefined ⟨Nat.le_of_ble_eq_true rfl, Nat.le_of_ble_eq_true rfl⟩) (va_recv hK hI.1 (ci := 11) (q0 := 0) rfl rfl) hI rfl hl.1 rfl (Nat.le_of_ble_eq_true rfl) dX11_transfer_30 (fun H locs hI => ?_)
      exact cx_iret C hI (congrArg Prod.fst hF) (congrArg Prod.snd hF) dX11_transfer_33
def m_transfer (st : CS) (x1 : Int32) : CS × Int32 := (if (((x1 >>> ((25 : Int32) &&& 31)) &&& (1 : Int32)) = (1 : Int32)) then (m_transfer_b15 st x1 (1 : Int32)) else (m_transfer_b15 st x1 (0 : Int32)))
def o_m_transfer (st : CS) (x1 : Int32) : Prop := (((((x1 >>> ((25 : Int32) &&& 31)) &&& (1 : Int32)) = (1 : Int32)) → (o_m_transfer_b15 st x1 (1 : Int32))) ∧ (¬ (((x1 >>> ((25 : Int32) &&& 31)) &&& (1 : Int32)) = (1 : Int32)) → (o_m_transfer_b15 st x1 (0 : Int32))))
set_option maxHeartbeats 4000000 in
set_option maxRecDepth 100000 in
theorem k_m_transfer {p : Program} {l : Launch} {e : Env} {s : State} {m : MethodId} {args : Array Value} {below : List Frame} {meth : Method} {c : Code} {A : Nat → Prop} (g : Gm) (C : cX p s m args meth c A cX11_transfer (some .int) 17 RX11 wq_X11_transfer (gD g) vwCl (mty g) (mz g)) (st : CS) (x1 : Int32) (H : Heap) (locs : List Loc) (ls : Array Slot) (hI : cI (gD g) vwCl (mw g) A s st H locs) (hl : lv_has ls 17 [(0, .ref (gad g 0)), (1, .int x1)]) (hO : o_m_transfer st x1) (X : CS × Int32) (hF : X = m_transfer st x1) : W p l e rm_m_transfer s m args below meth c H locs 0 0 (MQ below (cQi (gD g) vwCl (mty g) (mw g) A X.1 X.2) args s 0 0 A) (F0 m 0 ls []) := by
  obtain ⟨hx, hb, hr, hml, hown, hts, hlocks, hK, hA, hZ, hzo⟩ := id C
  unfold m_transfer at hF
  unfold o_m_transfer at hO
  refine lv_iload_n hx hb dX11_transfer_0 rfl (lv_at hl 1 rfl) ?_
  refine lv_bipush (v := (25 : Int32)) hx hb dX11_transfer_1 (by decide) ?_
  refine lv_ishr hx hb dX11_transfer_3 ?_
  refine lv_iconst (v := (1 : Int32)) hx hb dX11_transfer_4 (by decide) ?_
  refine lv_iand hx hb dX11_transfer_5 ?_
  refine lv_iconst (v := (1 : Int32)) hx hb dX11_transfer_6 (by decide) ?_
  refine lv_icmp_ne (tgt := 14) hx hb dX11_transfer_7 (by decide) (fun c_7 => ?_) (fun c_7 => ?_)
  · have hF := hF.trans (if_neg c_7)
    have hO := hO.2 c_7
    refine lv_iconst (v := (0 : Int32)) hx hb dX11_transfer_14 (by decide) ?_
    exact k_m_transfer_b15 g C st x1 (0 : Int32) H locs ls hI (lv_sub hl [0, 1] rfl) hO X hF
  · have hF := hF.trans (if_pos c_7)
    have hO := hO.1 c_7
    refine lv_iconst (v := (1 : Int32)) hx hb dX11_transfer_10 (by decide) ?_
    refine lv_goto (tgt := 15) hx hb dX11_transfer_11 (by decide) ?_
    exact k_m_transfer_b15 g C st x1 (1 : Int32) H locs ls hI (lv_sub hl [0, 1] rfl) hO X hF
set_option maxHeartbeats 4000000 in
set_option maxRecDepth 100000 in
theorem c_m_transfer (l : Launch) (g : Gm) (st : CS) (x1 : Int32) (hO : o_m_transfer st x1) : Mi l yX11_transfer wq_X11_transfer rm_m_transfer (gD g) vwCl (mty g) (mw g) (mz g) [.ref (gad g 0), .int x1] st (m_transfer st x1).1 (m_transfer st x1).2 := by
  intro sz
  refine Met.ofW (cc := cX11_transfer) (maxL := 17) (ret := (some .int)) (by decide) rfl ?_
  intro p e s m args below meth c s₁ B hml hv
  obtain ⟨rfl, hsz, hP, hK, hD0, hZ⟩ := hv
  subst hsz
  have hl := lv_entry ([.ref (gad g 0), .int x1]) (n := 17) (Nat.le_of_ble_eq_true rfl)
  rw [lg_entry_eq]
  generalize (lg_sl ([.ref (gad g 0), .int x1]) ++ List.replicate (17 - (lg_sl ([.ref (gad g 0), .int x1])).length) Slot.unset).toArray = ls at hl ⊢
  exact k_m_transfer g ⟨B.exec, B.bytes, B.returns, hml, findClass_of_methodNamed B.named, atoms_spec (ws := wq_X11_transfer) B.pre, B.notSynchronized, hK, fun q h => Or.inr h, hZ, mz_ok g⟩ st x1 _ _ ls ⟨hP, hD0.self, va_S.rf⟩ hl hO _ rfl
