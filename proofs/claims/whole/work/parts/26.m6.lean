abbrev wq_X11_poke : List Cond := .code yX11_poke cX11_poke 4 (some .boolean) :: wAll
theorem yd_yX11_poke : yX11_poke.cls = RX11 ∧ yX11_poke.cls ≠ "java/lang/invoke/MethodHandle" ∧ yX11_poke.cls ≠ "java/lang/invoke/VarHandle" ∧ (parseMethodDescriptor yX11_poke.desc).map (fun d => d.parameters.length) = some 3 := by decide +kernel
abbrev rm_m_poke : Room := { frames := 1, cells := 0, slots := 0, locals := 22 }
def m_poke_b25 (st : CS) (x1 : Int32) (x3 : Int32) : CS × Int32 := ((sA st 5 (upd (gA st 5) (x1 + (1 : Int32)).toNatClampNeg x3)), (1 : Int32))
def o_m_poke_b25 (st : CS) (x1 : Int32) (x3 : Int32) : Prop := (vp_in (x1 + (1 : Int32)) 16384 ∧ True)
set_option maxHeartbeats 4000000 in
set_option maxRecDepth 100000 in
theorem k_m_poke_b25 {p : Program} {l : Launch} {e : Env} {s : State} {m : MethodId} {args : Array Value} {below : List Frame} {meth : Method} {c : Code} {A : Nat → Prop} (g : Gm) (C : cX p s m args meth c A cX11_poke (some .boolean) 4 RX11 wq_X11_poke (gD g) vwCl (mty g) (mz g)) (st : CS) (x1 : Int32) (x3 : Int32) (H : Heap) (locs : List Loc) (ls : Array Slot) (hI : cI (gD g) vwCl (mw g) A s st H locs) (hl : lv_has ls 4 [(0, .ref (gad g 0)), (1, .int x1), (3, .int x3)]) (hO : o_m_poke_b25 st x1 x3) (X : CS × Int32) (hF : X = m_poke_b25 st x1 x3) : W p l e rm_m_poke s m args below meth c H locs 0 0 (MQ below (cQi (gD g) vwCl (mty g) (mw g) A X.1 X.2) args s 0 0 A) (F0 m 25 ls []) := by
  obtain ⟨hx, hb, hr, hml, hown, hts, hlocks, hK, hA, hZ, hzo⟩ := id C
  unfold m_poke_b25 at hF
  unfold o_m_poke_b25 at hO
  refine lv_aload_n hx hb dX11_poke_25 rfl (lv_at hl 0 rfl) ?_
  refine va_get (D := gD g) (ci := 11) (C := RX11) (T := TX11) (N := 50) (v := .ref (gad g 6)) hx hb hts (fun w h => List.mem_cons_of_mem _ (isX110 w h)) hown hK hI.1 0 rfl rfl 10 (by decide) (hts _ (List.mem_cons_of_mem _ mw190)) (fun _ h9 => h9) rfl dX11_poke_26 ?_
  refine lv_iload_n hx hb dX11_poke_29 rfl (lv_at hl 1 rfl) ?_
  refine lv_iconst (v := (1 : Int32)) hx hb dX11_poke_30 (by decide) ?_
  refine lv_iadd hx hb dX11_poke_31 ?_
  refine lv_iload_n hx hb dX11_poke_32 rfl (lv_at hl 2 rfl) ?_
  have hq_33_0 := hO.1
  have hO := hO.2
  refine va_iast (f := (gA st 5)) hx hb hK hI.1 hI.2.1 hI.2.2 6 5 rfl rfl hq_33_0 dX11_poke_33 (fun H locs hP hD hS => ?_)
  have hI : cI (gD g) vwCl (mw g) A s (sA st 5 (upd (gA st 5) (x1 + (1 : Int32)).toNatClampNeg x3)) H locs := ⟨hP, hD, hS⟩
  refine lv_iconst (v := (1 : Int32)) hx hb dX11_poke_34 (by decide) ?_
  exact cx_zret C hI (congrArg Prod.fst hF) (congrArg Prod.snd hF) rfl dX11_poke_35
def m_poke (st : CS) (x1 : Int32) (x2 : Int32) (x3 : Int32) : CS × Int32 := (if ((m_within x1 (0 : Int32) (16382 : Int32)) = 0) then ((sI st 0 (0 : Int32)), (0 : Int32)) else (m_poke_b25 (sA (sI st 0 (0 : Int32)) 5 (upd (gA st 5) x1.toNatClampNeg x2)) x1 x3))
def o_m_poke (st : CS) (x1 : Int32) (x2 : Int32) (x3 : Int32) : Prop := ((((m_within x1 (0 : Int32) (16382 : Int32)) = 0) → True) ∧ (¬ ((m_within x1 (0 : Int32) (16382 : Int32)) = 0) → (vp_in x1 16384 ∧ (o_m_poke_b25 (sA (sI st 0 (0 : Int32)) 5 (upd (gA st 5) x1.toNatClampNeg x2)) x1 x3))))
set_option maxHeartbeats 4000000 in
set_option maxRecDepth 100000 in
theorem k_m_poke {p : Program} {l : Launch} {e : Env} {s : State} {m : MethodId} {args : Array Value} {below : List Frame} {meth : Method} {c : Code} {A : Nat → Prop} (g : Gm) (C : cX p s m args meth c A cX11_poke (some .boolean) 4 RX11 wq_X11_poke (gD g) vwCl (mty g) (mz g)) (st : CS) (x1 : Int32) (x2 : Int32) (x3 : Int32) (H : Heap) (locs : List Loc) (ls : Array Slot) (hI : cI (gD g) vwCl (mw g) A s st H locs) (hl : lv_has ls 4 [(0, .ref (gad g 0)), (1, .int x1), (2, .int x2), (3, .int x3)]) (hO : o_m_poke st x1 x2 x3) (X : CS × Int32) (hF : X = m_poke st x1 x2 x3) : W p l e rm_m_poke s m args below meth c H locs 0 0 (MQ below (cQi (gD g) vwCl (mty g) (mw g) A X.1 X.2) args s 0 0 A) (F0 m 0 ls []) := by
  obtain ⟨hx, hb, hr, hml, hown, hts, hlocks, hK, hA, hZ, hzo⟩ := id C
  unfold m_poke at hF
  unfold o_m_poke at hO
  refine lv_aload_n hx hb dX11_poke_0 rfl (lv_at hl 0 rfl) ?_
  refine lv_iconst (v := (0 : Int32)) hx hb dX11_poke_1 (by decide) ?_
  refine va_put (D := gD g) (ci := 11) (C := RX11) (T := TX11) (N := 50) (v := .int (0 : Int32)) (ty := .int) hx hb hts (fun w h => List.mem_cons_of_mem _ (isX110 w h)) tyX11 tyX11_ok nmX11 hown hK hI.1 hI.2.1 hI.2.2 0 rfl rfl 0 (by decide) (hts _ (List.mem_cons_of_mem _ mw208)) (fun _ h9 => h9) rfl (by decide +kernel) rfl rfl (Nat.le_of_ble_eq_true rfl) dX11_poke_2 (fun H locs hP hD hS => ?_)
  have hI : cI (gD g) vwCl (mw g) A s (sI st 0 (0 : Int32)) H locs := ⟨hP, hD, hS⟩
  refine lv_iload_n hx hb dX11_poke_5 rfl (lv_at hl 1 rfl) ?_
  refine lv_iconst (v := (0 : Int32)) hx hb dX11_poke_6 (by decide) ?_
  refine lv_sipush (v := (16382 : Int32)) hx hb dX11_poke_7 (by decide) ?_
  refine cx_Si (As := [.int x1, .int (0 : Int32), .int (16382 : Int32)]) (rest := []) C (c_m_within l g (sI st 0 (0 : Int32)) x1 (0 : Int32) (16382 : Int32)) (va_cwS 3 hts (gd_S _ mw238 mw239 mw3 mw240) rfl rfl rfl yd_yX11_within ⟨Nat.le_of_ble_eq_true rfl, Nat.le_of_ble_eq_true rfl⟩) hI rfl hl.1 rfl (Nat.le_of_ble_eq_true rfl) dX11_poke_10 (fun H locs hI => ?_)
  refine lv_if_ne (tgt := 18) hx hb dX11_poke_13 (by decide) (fun c_13 => ?_) (fun c_13 => ?_)
  · have hF := hF.trans (if_neg c_13)
    have hO := hO.2 c_13
    refine lv_aload_n hx hb dX11_poke_18 rfl (lv_at hl 0 rfl) ?_
    refine va_get (D := gD g) (ci := 11) (C := RX11) (T := TX11) (N := 50) (v := .ref (gad g 6)) hx hb hts (fun w h => List.mem_cons_of_mem _ (isX110 w h)) hown hK hI.1 0 rfl rfl 10 (by decide) (hts _ (List.mem_cons_of_mem _ mw190)) (fun _ h9 => h9) rfl dX11_poke_19 ?_
    refine lv_iload_n hx hb dX11_poke_22 rfl (lv_at hl 1 rfl) ?_
    refine lv_iload_n hx hb dX11_poke_23 rfl (lv_at hl 2 rfl) ?_
    have hq_24_0 := hO.1
    have hO := hO.2
    refine va_iast (f := (gA st 5)) hx hb hK hI.1 hI.2.1 hI.2.2 6 5 rfl rfl hq_24_0 dX11_poke_24 (fun H locs hP hD hS => ?_)
    have hI : cI (gD g) vwCl (mw g) A s (sA (sI st 0 (0 : Int32)) 5 (upd (gA st 5) x1.toNatClampNeg x2)) H locs := ⟨hP, hD, hS⟩
    exact k_m_poke_b25 g C (sA (sI st 0 (0 : Int32)) 5 (upd (gA st 5) x1.toNatClampNeg x2)) x1 x3 H locs ls hI (lv_sub hl [0, 1, 3] rfl) hO X hF
  · have hF := hF.trans (if_pos c_13)
    have hO := hO.1 c_13
    refine lv_iconst (v := (0 : Int32)) hx hb dX11_poke_16 (by decide) ?_
    exact cx_zret C hI (congrArg Prod.fst hF) (congrArg Prod.snd hF) rfl dX11_poke_17
set_option maxHeartbeats 4000000 in
set_option maxRecDepth 100000 in
theorem c_m_poke (l : Launch) (g : Gm) (st : CS) (x1 : Int32) (x2 : Int32) (x3 : Int32) (hO : o_m_poke st x1 x2 x3) : Mi l yX11_poke wq_X11_poke rm_m_poke (gD g) vwCl (mty g) (mw g) (mz g) [.ref (gad g 0), .int x1, .int x2, .int x3] st (m_poke st x1 x2 x3).1 (m_poke st x1 x2 x3).2 := by
  intro sz
  refine Met.ofW (cc := cX11_poke) (maxL := 4) (ret := (some .boolean)) (by decide) rfl ?_
  intro p e s m args below meth c s₁ B hml hv
  obtain ⟨rfl, hsz, hP, hK, hD0, hZ⟩ := hv
  subst hsz
  have hl := lv_entry ([.ref (gad g 0), .int x1, .int x2, .int x3]) (n := 4) (Nat.le_of_ble_eq_true rfl)
  rw [lg_entry_eq]
  generalize (lg_sl ([.ref (gad g 0), .int x1, .int x2, .int x3]) ++ List.replicate (4 - (lg_sl ([.ref (gad g 0), .int x1, .int x2, .int x3])).length) Slot.unset).toArray = ls at hl ⊢
  exact k_m_poke g ⟨B.exec, B.bytes, B.returns, hml, findClass_of_methodNamed B.named, atoms_spec (ws := wq_X11_poke) B.pre, B.notSynchronized, hK, fun q h => Or.inr h, hZ, mz_ok g⟩ st x1 x2 x3 _ _ ls ⟨hP, hD0.self, va_S.rf⟩ hl hO _ rfl
abbrev wq_X11_peek : List Cond := .code yX11_peek cX11_peek 2 (some .int) :: wAll
theorem yd_yX11_peek : yX11_peek.cls = RX11 ∧ yX11_peek.cls ≠ "java/lang/invoke/MethodHandle" ∧ yX11_peek.cls ≠ "java/lang/invoke/VarHandle" ∧ (parseMethodDescriptor yX11_peek.desc).map (fun d => d.parameters.length) = some 1 := by decide +kernel
abbrev rm_m_peek : Room := { frames := 1, cells := 0, slots := 0, locals := 22 }
def m_peek (st : CS) (x1 : Int32) : CS × Int32 := (if ((m_within x1 (0 : Int32) (16383 : Int32)) = 0) then ((m_fail (sI st 0 (0 : Int32))).1, (m_fail (sI st 0 (0 : Int32))).2) else ((sI st 0 (0 : Int32)), ((gA st 5) x1.toNatClampNeg)))
def o_m_peek (st : CS) (x1 : Int32) : Prop := ((((m_within x1 (0 : Int32) (16383 : Int32)) = 0) → True) ∧ (¬ ((m_within x1 (0 : Int32) (16383 : Int32)) = 0) → (vp_in x1 16384 ∧ True)))
set_option maxHeartbeats 4000000 in
set_option maxRecDepth 100000 in
theorem k_m_peek {p : Program} {l : Launch} {e : Env} {s : State} {m : MethodId} {args : Array Value} {below : List Frame} {meth : Method} {c : Code} {A : Nat → Prop} (g : Gm) (C : cX p s m args meth c A cX11_peek (some .int) 2 RX11 wq_X11_peek (gD g) vwCl (mty g) (mz g)) (st : CS) (x1 : Int32) (H : Heap) (locs : List Loc) (ls : Array Slot) (hI : cI (gD g) vwCl (mw g) A s st H locs) (hl : lv_has ls 2 [(0, .ref (gad g 0)), (1, .int x1)]) (hO : o_m_peek st x1) (X : CS × Int32) (hF : X = m_peek st x1) : W p l e rm_m_peek s m args below meth c H locs 0 0 (MQ below (cQi (gD g) vwCl (mty g) (mw g) A X.1 X.2) args s 0 0 A) (F0 m 0 ls []) := by
  obtain ⟨hx, hb, hr, hml, hown, hts, hlocks, hK, hA, hZ, hzo⟩ := id C
  unfold m_peek at hF
  unfold o_m_peek at hO
  refine lv_aload_n hx hb dX11_peek_0 rfl (lv_at hl 0 rfl) ?_
  refine lv_iconst (v := (0 : Int32)) hx hb dX11_peek_1 (by decide) ?_
  refine va_put (D := gD g) (ci := 11) (C := RX11) (T := TX11) (N := 50) (v := .int (0 : Int32)) (ty := .int) hx hb hts (fun w h => List.mem_cons_of_mem _ (isX110 w h)) tyX11 tyX11_ok nmX11 hown hK hI.1 hI.2.1 hI.2.2 0 rfl rfl 0 (by decide) (hts _ (List.mem_cons_of_mem _ mw208)) (fun _ h9 => h9) rfl (by decide +kernel) rfl rfl (Nat.le_of_ble_eq_true rfl) dX11_peek_2 (fun H locs hP hD hS => ?_)
  have hI : cI (gD g) vwCl (mw g) A s (sI st 0 (0 : Int32)) H locs := ⟨hP, hD, hS⟩
  refine lv_iload_n hx hb dX11_peek_5 rfl (lv_at hl 1 rfl) ?_
  refine lv_iconst (v := (0 : Int32)) hx hb dX11_peek_6 (by decide) ?_
  refine lv_sipush (v := (16383 : Int32)) hx hb dX11_peek_7 (by decide) ?_
  refine cx_Si (As := [.int x1, .int (0 : Int32), .int (16383 : Int32)]) (rest := []) C (c_m_within l g (sI st 0 (0 : Int32)) x1 (0 : Int32) (16383 : Int32)) (va_cwS 3 hts (gd_S _ mw238 mw239 mw3 mw240) rfl rfl rfl yd_yX11_within ⟨Nat.le_of_ble_eq_true rfl, Nat.le_of_ble_eq_true rfl⟩) hI rfl hl.1 rfl (Nat.le_of_ble_eq_true rfl) dX11_peek_10 (fun H locs hI => ?_)
  refine lv_if_eq (tgt := 25) hx hb dX11_peek_13 (by decide) (fun c_13 => ?_) (fun c_13 => ?_)
  · have hF := hF.trans (if_pos c_13)
    have hO := hO.1 c_13
    refine lv_aload_n hx hb dX11_peek_25 rfl (lv_at hl 0 rfl) ?_
    refine cx_Vi (As := []) (rest := []) C (c_m_fail l g (sI st 0 (0 : Int32)) ) (cwV 0 hts (gd_V _ mw249 mw250 mw251 mw3 mw252) rfl rfl rfl yd_yX11_fail ⟨Nat.le_of_ble_eq_true rfl, Nat.le_of_ble_eq_true rfl⟩) (va_recv hK hI.1 (ci := 11) (q0 := 0) rfl rfl) hI rfl hl.1 rfl (Nat.le_of_ble_eq_true rfl) dX11_peek_26 (fun H locs hI => ?_)
    exact cx_iret C hI (congrArg Prod.fst hF) (congrArg Prod.snd hF) dX11_peek_29
  · have hF := hF.trans (if_neg c_13)
    have hO := hO.2 c_13
    refine lv_aload_n hx hb dX11_peek_16 rfl (lv_at hl 0 rfl) ?_
    refine va_get (D := gD g) (ci := 11) (C := RX11) (T := TX11) (N := 50) (v := .ref (gad g 6)) hx hb hts (fun w h => List.mem_cons_of_mem _ (isX110 w h)) hown hK hI.1 0 rfl rfl 10 (by decide) (hts _ (List.mem_cons_of_mem _ mw190)) (fun _ h9 => h9) rfl dX11_peek_17 ?_
    refine lv_iload_n hx hb dX11_peek_20 rfl (lv_at hl 1 rfl) ?_
    have hq_21_0 := hO.1
    have hO := hO.2
    refine va_iald (f := (gA st 5)) hx hb hK hI.1 6 5 rfl rfl hq_21_0 dX11_peek_21 ?_
    refine lv_goto (tgt := 29) hx hb dX11_peek_22 (by decide) ?_
    exact cx_iret C hI (congrArg Prod.fst hF) (congrArg Prod.snd hF) dX11_peek_29
set_option maxHeartbeats 4000000 in
set_option maxRecDepth 100000 in
theorem c_m_peek (l : Launch) (g : Gm) (st : CS) (x1 : Int32) (hO : o_m_peek st x1) : Mi l yX11_peek wq_X11_peek rm_m_peek (gD g) vwCl (mty g) (mw g) (mz g) [.ref (gad g 0), .int x1] st (m_peek st x1).1 (m_peek st x1).2 := by
  intro sz
  refine Met.ofW (cc := cX11_peek) (maxL := 2) (ret := (some .int)) (by decide) rfl ?_
  intro p e s m args below meth c s₁ B hml hv
  obtain ⟨rfl, hsz, hP, hK, hD0, hZ⟩ := hv
  subst hsz
  have hl := lv_entry ([.ref (gad g 0), .int x1]) (n := 2) (Nat.le_of_ble_eq_true rfl)
  rw [lg_entry_eq]
  generalize (lg_sl ([.ref (gad g 0), .int x1]) ++ List.replicate (2 - (lg_sl ([.ref (gad g 0), .int x1])).length) Slot.unset).toArray = ls at hl ⊢
  exact k_m_peek g ⟨B.exec, B.bytes, B.returns, hml, findClass_of_methodNamed B.named, atoms_spec (ws := wq_X11_peek) B.pre, B.notSynchronized, hK, fun q h => Or.inr h, hZ, mz_ok g⟩ st x1 _ _ ls ⟨hP, hD0.self, va_S.rf⟩ hl hO _ rfl
abbrev wq_X11_isStored : List Cond := .code yX11_isStored cX11_isStored 2 (some .boolean) :: wAll
theorem yd_yX11_isStored : yX11_isStored.cls ≠ "java/lang/invoke/MethodHandle" ∧ yX11_isStored.cls ≠ "java/lang/invoke/VarHandle" ∧ (parseMethodDescriptor yX11_isStored.desc).map (fun d => d.parameters.length) = some 2 := by decide +kernel
abbrev rm_m_isStored : Room := { frames := 1, cells := 0, slots := 0, locals := 22 }
def m_isStored (x0 : Int32) (x1 : Int32) : Int32 := (if ((m_within x0 (0 : Int32) (15 : Int32)) = 0) then (0 : Int32) else (if ((m_within x1 (0 : Int32) (1023 : Int32)) = 0) then (0 : Int32) else (1 : Int32)))
set_option maxHeartbeats 4000000 in
set_option maxRecDepth 100000 in
theorem k_m_isStored {p : Program} {l : Launch} {e : Env} {s : State} {m : MethodId} {args : Array Value} {below : List Frame} {meth : Method} {c : Code} {A : Nat → Prop} (g : Gm) (C : cX p s m args meth c A cX11_isStored (some .boolean) 2 RX11 wq_X11_isStored (gD g) vwCl (mty g) (mz g)) (st : CS) (x0 : Int32) (x1 : Int32) (H : Heap) (locs : List Loc) (ls : Array Slot) (hI : cI (gD g) vwCl (mw g) A s st H locs) (hl : lv_has ls 2 [(0, .int x0), (1, .int x1)]) (X : Int32) (hF : X = m_isStored x0 x1) : W p l e rm_m_isStored s m args below meth c H locs 0 0 (MQ below (cQi (gD g) vwCl (mty g) (mw g) A st X) args s 0 0 A) (F0 m 0 ls []) := by
  obtain ⟨hx, hb, hr, hml, hown, hts, hlocks, hK, hA, hZ, hzo⟩ := id C
  unfold m_isStored at hF
  refine lv_iload_n hx hb dX11_isStored_0 rfl (lv_at hl 0 rfl) ?_
  refine lv_iconst (v := (0 : Int32)) hx hb dX11_isStored_1 (by decide) ?_
  refine lv_bipush (v := (15 : Int32)) hx hb dX11_isStored_2 (by decide) ?_
  refine cx_Si (As := [.int x0, .int (0 : Int32), .int (15 : Int32)]) (rest := []) C (c_m_within l g st x0 (0 : Int32) (15 : Int32)) (va_cwS 3 hts (gd_S _ mw238 mw239 mw3 mw240) rfl rfl rfl yd_yX11_within ⟨Nat.le_of_ble_eq_true rfl, Nat.le_of_ble_eq_true rfl⟩) hI rfl hl.1 rfl (Nat.le_of_ble_eq_true rfl) dX11_isStored_4 (fun H locs hI => ?_)
  refine lv_if_eq (tgt := 25) hx hb dX11_isStored_7 (by decide) (fun c_7 => ?_) (fun c_7 => ?_)
  · have hF := hF.trans (if_pos c_7)
    refine lv_iconst (v := (0 : Int32)) hx hb dX11_isStored_25 (by decide) ?_
    exact cx_zret C hI rfl hF rfl dX11_isStored_26
  · have hF := hF.trans (if_neg c_7)
    refine lv_iload_n hx hb dX11_isStored_10 rfl (lv_at hl 1 rfl) ?_
    refine lv_iconst (v := (0 : Int32)) hx hb dX11_isStored_11 (by decide) ?_
    refine lv_sipush (v := (1023 : Int32)) hx hb dX11_isStored_12 (by decide) ?_
    refine cx_Si (As := [.int x1, .int (0 : Int32), .int (1023 : Int32)]) (rest := []) C (c_m_within l g st x1 (0 : Int32) (1023 : Int32)) (va_cwS 3 hts (gd_S _ mw238 mw239 mw3 mw240) rfl rfl rfl yd_yX11_within ⟨Nat.le_of_ble_eq_true rfl, Nat.le_of_ble_eq_true rfl⟩) hI rfl hl.1 rfl (Nat.le_of_ble_eq_true rfl) dX11_isStored_15 (fun H locs hI => ?_)
    refine lv_if_eq (tgt := 25) hx hb dX11_isStored_18 (by decide) (fun c_18 => ?_) (fun c_18 => ?_)
    · have hF := hF.trans (if_pos c_18)
      refine lv_iconst (v := (0 : Int32)) hx hb dX11_isStored_25 (by decide) ?_
      exact cx_zret C hI rfl hF rfl dX11_isStored_26
    · have hF := hF.trans (if_neg c_18)
      refine lv_iconst (v := (1 : Int32)) hx hb dX11_isStored_21 (by decide) ?_
      refine lv_goto (tgt := 26) hx hb dX11_isStored_22 (by decide) ?_
      exact cx_zret C hI rfl hF rfl dX11_isStored_26
set_option maxHeartbeats 4000000 in
set_option maxRecDepth 100000 in
theorem c_m_isStored (l : Launch) (g : Gm) (st : CS) (x0 : Int32) (x1 : Int32) : Mi l yX11_isStored wq_X11_isStored rm_m_isStored (gD g) vwCl (mty g) (mw g) (mz g) [.int x0, .int x1] st st (m_isStored x0 x1) := by
  intro sz
  refine Met.ofW (cc := cX11_isStored) (maxL := 2) (ret := (some .boolean)) (by decide) rfl ?_
  intro p e s m args below meth c s₁ B hml hv
  obtain ⟨rfl, hsz, hP, hK, hD0, hZ⟩ := hv
  subst hsz
  have hl := lv_entry ([.int x0, .int x1]) (n := 2) (Nat.le_of_ble_eq_true rfl)
  rw [lg_entry_eq]
  generalize (lg_sl ([.int x0, .int x1]) ++ List.replicate (2 - (lg_sl ([.int x0, .int x1])).length) Slot.unset).toArray = ls at hl ⊢
  exact k_m_isStored g ⟨B.exec, B.bytes, B.returns, hml, findClass_of_methodNamed B.named, atoms_spec (ws := wq_X11_isStored) B.pre, B.notSynchronized, hK, fun q h => Or.inr h, hZ, mz_ok g⟩ st x0 x1 _ _ ls ⟨hP, hD0.self, va_S.rf⟩ hl _ rfl
abbrev wq_X11_store : List Cond := .code yX11_store cX11_store 4 (some .boolean) :: wAll
theorem yd_yX11_store : yX11_store.cls = RX11 ∧ yX11_store.cls ≠ "java/lang/invoke/MethodHandle" ∧ yX11_store.cls ≠ "java/lang/invoke/VarHandle" ∧ (parseMethodDescriptor yX11_store.desc).map (fun d => d.parameters.length) = some 3 := by decide +kernel
abbrev rm_m_store : Room := { frames := 2, cells := 0, slots := 0, locals := 43 }
def m_store (st : CS) (x1 : Int32) (x2 : Int32) (x3 : Int32) : CS × Int32 := (if ((m_isStored x1 x2) = 0) then ((sI st 0 (0 : Int32)), (0 : Int32)) else ((sA (sI st 0 (0 : Int32)) 6 (upd (gA st 6) (((1024 : Int32) * x1) + x2).toNatClampNeg x3)), (1 : Int32)))
def o_m_store (st : CS) (x1 : Int32) (x2 : Int32) (x3 : Int32) : Prop := ((((m_isStored x1 x2) = 0) → True) ∧ (¬ ((m_isStored x1 x2) = 0) → (vp_in (((1024 : Int32) * x1) + x2) 16384 ∧ True)))
set_option maxHeartbeats 4000000 in
set_option maxRecDepth 100000 in
theorem k_m_store {p : Program} {l : Launch} {e : Env} {s : State} {m : MethodId} {args : Array Value} {below : List Frame} {meth : Method} {c : Code} {A : Nat → Prop} (g : Gm) (C : cX p s m args meth c A cX11_store (some .boolean) 4 RX11 wq_X11_store (gD g) vwCl (mty g) (mz g)) (st : CS) (x1 : Int32) (x2 : Int32) (x3 : Int32) (H : Heap) (locs : List Loc) (ls : Array Slot) (hI : cI (gD g) vwCl (mw g) A s st H locs) (hl : lv_has ls 4 [(0, .ref (gad g 0)), (1, .int x1), (2, .int x2), (3, .int x3)]) (hO : o_m_store st x1 x2 x3) (X : CS × Int32) (hF : X = m_store st x1 x2 x3) : W p l e rm_m_store s m args below meth c H locs 0 0 (MQ below (cQi (gD g) vwCl (mty g) (mw g) A X.1 X.2) args s 0 0 A) (F0 m 0 ls []) := by
  obtain ⟨hx, hb, hr, hml, hown, hts, hlocks, hK, hA, hZ, hzo⟩ := id C
  unfold m_store at hF
  unfold o_m_store at hO
  refine lv_aload_n hx hb dX11_store_0 rfl (lv_at hl 0 rfl) ?_
  refine lv_iconst (v := (0 : Int32)) hx hb dX11_store_1 (by decide) ?_
  refine va_put (D := gD g) (ci := 11) (C := RX11) (T := TX11) (N := 50) (v := .int (0 : Int32)) (ty := .int) hx hb hts (fun w h => List.mem_cons_of_mem _ (isX110 w h)) tyX11 tyX11_ok nmX11 hown hK hI.1 hI.2.1 hI.2.2 0 rfl rfl 0 (by decide) (hts _ (List.mem_cons_of_mem _ mw208)) (fun _ h9 => h9) rfl (by decide +kernel) rfl rfl (Nat.le_of_ble_eq_true rfl) dX11_store_2 (fun H locs hP hD hS => ?_)
  have hI : cI (gD g) vwCl (mw g) A s (sI st 0 (0 : Int32)) H locs := ⟨hP, hD, hS⟩
  refine lv_iload_n hx hb dX11_store_5 rfl (lv_at hl 1 rfl) ?_
  refine lv_iload_n hx hb dX11_store_6 rfl (lv_at hl 2 rfl) ?_
  refine cx_Si (As := [.int x1, .int x2]) (rest := []) C (c_m_isStored l g (sI st 0 (0 : Int32)) x1 x2) (va_cwS 2 hts (gd_S _ mw269 mw270 mw3 mw271) rfl rfl rfl yd_yX11_isStored ⟨Nat.le_of_ble_eq_true rfl, Nat.le_of_ble_eq_true rfl⟩) hI rfl hl.1 rfl (Nat.le_of_ble_eq_true rfl) dX11_store_7 (fun H locs hI => ?_)
  refine lv_if_ne (tgt := 15) hx hb dX11_store_10 (by decide) (fun c_10 => ?_) (fun c_10 => ?_)
  · have hF := hF.trans (if_neg c_10)
    have hO := hO.2 c_10
    refine lv_aload_n hx hb dX11_store_15 rfl (lv_at hl 0 rfl) ?_
    refine va_get (D := gD g) (ci := 11) (C := RX11) (T := TX11) (N := 50) (v := .ref (gad g 7)) hx hb hts (fun w h => List.mem_cons_of_mem _ (isX110 w h)) hown hK hI.1 0 rfl rfl 11 (by decide) (hts _ (List.mem_cons_of_mem _ mw191)) (fun _ h9 => h9) rfl dX11_store_16 ?_
    refine lv_sipush (v := (1024 : Int32)) hx hb dX11_store_19 (by decide) ?_
    refine lv_iload_n hx hb dX11_store_22 rfl (lv_at hl 1 rfl) ?_
    refine lv_imul hx hb dX11_store_23 ?_
    refine lv_iload_n hx hb dX11_store_24 rfl (lv_at hl 2 rfl) ?_
    refine lv_iadd hx hb dX11_store_25 ?_
    refine lv_iload_n hx hb dX11_store_26 rfl (lv_at hl 3 rfl) ?_
    have hq_27_0 := hO.1
    have hO := hO.2
    refine va_iast (f := (gA st 6)) hx hb hK hI.1 hI.2.1 hI.2.2 7 6 rfl rfl hq_27_0 dX11_store_27 (fun H locs hP hD hS => ?_)
    have hI : cI (gD g) vwCl (mw g) A s (sA (sI st 0 (0 : Int32)) 6 (upd (gA st 6) (((1024 : Int32) * x1) + x2).toNatClampNeg x3)) H locs := ⟨hP, hD, hS⟩
    refine lv_iconst (v := (1 : Int32)) hx hb dX11_store_28 (by decide) ?_
    exact cx_zret C hI (congrArg Prod.fst hF) (congrArg Prod.snd hF) rfl dX11_store_29
  · have hF := hF.trans (if_pos c_10)
    have hO := hO.1 c_10
    refine lv_iconst (v := (0 : Int32)) hx hb dX11_store_13 (by decide) ?_
    exact cx_zret C hI (congrArg Prod.fst hF) (congrArg Prod.snd hF) rfl dX11_store_14
set_option maxHeartbeats 4000000 in
set_option maxRecDepth 100000 in
theorem c_m_store (l : Launch) (g : Gm) (st : CS) (x1 : Int32) (x2 : Int32) (x3 : Int32) (hO : o_m_store st x1 x2 x3) : Mi l yX11_store wq_X11_store rm_m_store (gD g) vwCl (mty g) (mw g) (mz g) [.ref (gad g 0), .int x1, .int x2, .int x3] st (m_store st x1 x2 x3).1 (m_store st x1 x2 x3).2 := by
  intro sz
  refine Met.ofW (cc := cX11_store) (maxL := 4) (ret := (some .boolean)) (by decide) rfl ?_
  intro p e s m args below meth c s₁ B hml hv
  obtain ⟨rfl, hsz, hP, hK, hD0, hZ⟩ := hv
  subst hsz
  have hl := lv_entry ([.ref (gad g 0), .int x1, .int x2, .int x3]) (n := 4) (Nat.le_of_ble_eq_true rfl)
  rw [lg_entry_eq]
  generalize (lg_sl ([.ref (gad g 0), .int x1, .int x2, .int x3]) ++ List.replicate (4 - (lg_sl ([.ref (gad g 0), .int x1, .int x2, .int x3])).length) Slot.unset).toArray = ls at hl ⊢
  exact k_m_store g ⟨B.exec, B.bytes, B.returns, hml, findClass_of_methodNamed B.named, atoms_spec (ws := wq_X11_store) B.pre, B.notSynchronized, hK, fun q h => Or.inr h, hZ, mz_ok g⟩ st x1 x2 x3 _ _ ls ⟨hP, hD0.self, va_S.rf⟩ hl hO _ rfl
abbrev wq_X11_stored : List Cond := .code yX11_stored cX11_stored 3 (some .int) :: wAll
theorem yd_yX11_stored : yX11_stored.cls = RX11 ∧ yX11_stored.cls ≠ "java/lang/invoke/MethodHandle" ∧ yX11_stored.cls ≠ "java/lang/invoke/VarHandle" ∧ (parseMethodDescriptor yX11_stored.desc).map (fun d => d.parameters.length) = some 2 := by decide +kernel
abbrev rm_m_stored : Room := { frames := 2, cells := 0, slots := 0, locals := 43 }
def m_stored (st : CS) (x1 : Int32) (x2 : Int32) : CS × Int32 := (if ((m_isStored x1 x2) = 0) then ((m_fail (sI st 0 (0 : Int32))).1, (m_fail (sI st 0 (0 : Int32))).2) else ((sI st 0 (0 : Int32)), ((gA st 6) (((1024 : Int32) * x1) + x2).toNatClampNeg)))
def o_m_stored (st : CS) (x1 : Int32) (x2 : Int32) : Prop := ((((m_isStored x1 x2) = 0) → True) ∧ (¬ ((m_isStored x1 x2) = 0) → (vp_in (((1024 : Int32) * x1) + x2) 16384 ∧ True)))
set_option maxHeartbeats 4000000 in
set_option maxRecDepth 100000 in
theorem k_m_stored {p : Program} {l : Launch} {e : Env} {s : State} {m : MethodId} {args : Array Value} {below : List Frame} {meth : Method} {c : Code} {A : Nat → Prop} (g : Gm) (C : cX p s m args meth c A cX11_stored (some .int) 3 RX11 wq_X11_stored (gD g) vwCl (mty g) (mz g)) (st : CS) (x1 : Int32) (x2 : Int32) (H : Heap) (locs : List Loc) (ls : Array Slot) (hI : cI (gD g) vwCl (mw g) A s st H locs) (hl : lv_has ls 3 [(0, .ref (gad g 0)), (1, .int x1), (2, .int x2)]) (hO : o_m_stored st x1 x2) (X : CS × Int32) (hF : X = m_stored st x1 x2) : W p l e rm_m_stored s m args below meth c H locs 0 0 (MQ below (cQi (gD g) vwCl (mty g) (mw g) A X.1 X.2) args s 0 0 A) (F0 m 0 ls []) := by
  obtain ⟨hx, hb, hr, hml, hown, hts, hlocks, hK, hA, hZ, hzo⟩ := id C
  unfold m_stored at hF
  unfold o_m_stored at hO
  refine lv_aload_n hx hb dX11_stored_0 rfl (lv_at hl 0 rfl) ?_
  refine lv_iconst (v := (0 : Int32)) hx hb dX11_stored_1 (by decide) ?_
  refine va_put (D := gD g) (ci := 11) (C := RX11) (T := TX11) (N := 50) (v := .int (0 : Int32)) (ty := .int) hx hb hts (fun w h => List.mem_cons_of_mem _ (isX110 w h)) tyX11 tyX11_ok nmX11 hown hK hI.1 hI.2.1 hI.2.2 0 rfl rfl 0 (by decide) (hts _ (List.mem_cons_of_mem _ mw208)) (fun _ h9 => h9) rfl (by decide +kernel) rfl rfl (Nat.le_of_ble_eq_true rfl) dX11_stored_2 (fun H locs hP hD hS => ?_)
  have hI : cI (gD g) vwCl (mw g) A s (sI st 0 (0 : Int32)) H locs := ⟨hP, hD, hS⟩
  refine lv_iload_n hx hb dX11_stored_5 rfl (lv_at hl 1 rfl) ?_
  refine lv_iload_n hx hb dX11_stored_6 rfl (lv_at hl 2 rfl) ?_
  refine cx_Si (As := [.int x1, .int x2]) (rest := []) C (c_m_isStored l g (sI st 0 (0 : Int32)) x1 x2) (va_cwS 2 hts (gd_S _ mw269 mw270 mw3 mw271) rfl rfl rfl yd_yX11_isStored ⟨Nat.le_of_ble_eq_true rfl, Nat.le_of_ble_eq_true rfl⟩) hI rfl hl.1 rfl (Nat.le_of_ble_eq_true rfl) dX11_stored_7 (fun H locs hI => ?_)
  refine lv_if_eq (tgt := 28) hx hb dX11_stored_10 (by decide) (fun c_10 => ?_) (fun c_10 => ?_)
  · have hF := hF.trans (if_pos c_10)
    have hO := hO.1 c_10
    refine lv_aload_n hx hb dX11_stored_28 rfl (lv_at hl 0 rfl) ?_
    refine cx_Vi (As := []) (rest := []) C (c_m_fail l g (sI st 0 (0 : Int32)) ) (cwV 0 hts (gd_V _ mw249 mw250 mw251 mw3 mw252) rfl rfl rfl yd_yX11_fail ⟨Nat.le_of_ble_eq_true rfl, Nat.le_of_ble_eq_true rfl⟩) (va_recv hK hI.1 (ci := 11) (q0 := 0) rfl rfl) hI rfl hl.1 rfl (Nat.le_of_ble_eq_true rfl) dX11_stored_29 (fun H locs hI => ?_)
    exact cx_iret C hI (congrArg Prod.fst hF) (congrArg Prod.snd hF) dX11_stored_32
  · have hF := hF.trans (if_neg c_10)
    have hO := hO.2 c_10
    refine lv_aload_n hx hb dX11_stored_13 rfl (lv_at hl 0 rfl) ?_
    refine va_get (D := gD g) (ci := 11) (C := RX11) (T := TX11) (N := 50) (v := .ref (gad g 7)) hx hb hts (fun w h => List.mem_cons_of_mem _ (isX110 w h)) hown hK hI.1 0 rfl rfl 11 (by decide) (hts _ (List.mem_cons_of_mem _ mw191)) (fun _ h9 => h9) rfl dX11_stored_14 ?_
    refine lv_sipush (v := (1024 : Int32)) hx hb dX11_stored_17 (by decide) ?_
    refine lv_iload_n hx hb dX11_stored_20 rfl (lv_at hl 1 rfl) ?_
    refine lv_imul hx hb dX11_stored_21 ?_
    refine lv_iload_n hx hb dX11_stored_22 rfl (lv_at hl 2 rfl) ?_
    refine lv_iadd hx hb dX11_stored_23 ?_
    have hq_24_0 := hO.1
    have hO := hO.2
    refine va_iald (f := (gA st 6)) hx hb hK hI.1 7 6 rfl rfl hq_24_0 dX11_stored_24 ?_
    refine lv_goto (tgt := 32) hx hb dX11_stored_25 (by decide) ?_
    exact cx_iret C hI (congrArg Prod.fst hF) (congrArg Prod.snd hF) dX11_stored_32
set_option maxHeartbeats 4000000 in
set_option maxRecDepth 100000 in
theorem c_m_stored (l : Launch) (g : Gm) (st : CS) (x1 : Int32) (x2 : Int32) (hO : o_m_stored st x1 x2) : Mi l yX11_stored wq_X11_stored rm_m_stored (gD g) vwCl (mty g) (mw g) (mz g) [.ref (gad g 0), .int x1, .int x2] st (m_stored st x1 x2).1 (m_stored st x1 x2).2 := by
  intro sz
  refine Met.ofW (cc := cX11_stored) (maxL := 3) (ret := (some .int)) (by decide) rfl ?_
  intro p e s m args below meth c s₁ B hml hv
  obtain ⟨rfl, hsz, hP, hK, hD0, hZ⟩ := hv
  subst hsz
  have hl := lv_entry ([.ref (gad g 0), .int x1, .int x2]) (n := 3) (Nat.le_of_ble_eq_true rfl)
  rw [lg_entry_eq]
  generalize (lg_sl ([.ref (gad g 0), .int x1, .int x2]) ++ List.replicate (3 - (lg_sl ([.ref (gad g 0), .int x1, .int x2])).length) Slot.unset).toArray = ls at hl ⊢
  exact k_m_stored g ⟨B.exec, B.bytes, B.returns, hml, findClass_of_methodNamed B.named, atoms_spec (ws := wq_X11_stored) B.pre, B.notSynchronized, hK, fun q h => Or.inr h, hZ, mz_ok g⟩ st x1 x2 _ _ ls ⟨hP, hD0.self, va_S.rf⟩ hl hO _ rfl
abbrev wq_X11_key : List Cond := .code yX11_key cX11_key 2 (some .boolean) :: wAll
theorem yd_yX11_key : yX11_key.cls = RX11 ∧ yX11_key.cls ≠ "java/lang/invoke/MethodHandle" ∧ yX11_key.cls ≠ "java/lang/invoke/VarHandle" ∧ (parseMethodDescriptor yX11_key.desc).map (fun d => d.parameters.length) = some 1 := by decide +kernel
abbrev rm_m_key : Room := { frames := 0, cells := 0, slots := 0, locals := 0 }
def m_key (st : CS) (x1 : Int32) : CS × Int32 := (if ((gI st 14) = 0) then ((sI (sI (sI st 0 (0 : Int32)) 14 (1 : Int32)) 13 (x1 &&& (255 : Int32))), (1 : Int32)) else ((sI st 0 (0 : Int32)), (0 : Int32)))
set_option maxHeartbeats 4000000 in
set_option maxRecDepth 100000 in
theorem k_m_key {p : Program} {l : Launch} {e : Env} {s : State} {m : MethodId} {args : Array Value} {below : List Frame} {meth : Method} {c : Code} {A : Nat → Prop} (g : Gm) (C : cX p s m args meth c A cX11_key (some .boolean) 2 RX11 wq_X11_key (gD g) vwCl (mty g) (mz g)) (st : CS) (x1 : Int32) (H : Heap) (locs : List Loc) (ls : Array Slot) (hI : cI (gD g) vwCl (mw g) A s st H locs) (hl : lv_has ls 2 [(0, .ref (gad g 0)), (1, .int x1)]) (X : CS × Int32) (hF : X = m_key st x1) : W p l e rm_m_key s m args below meth c H locs 0 0 (MQ below (cQi (gD g) vwCl (mty g) (mw g) A X.1 X.2) args s 0 0 A) (F0 m 0 ls []) := by
  obtain ⟨hx, hb, hr, hml, hown, hts, hlocks, hK, hA, hZ, hzo⟩ := id C
  unfold m_key at hF
  refine lv_aload_n hx hb dX11_key_0 rfl (lv_at hl 0 rfl) ?_
  refine lv_iconst (v := (0 : Int32)) hx hb dX11_key_1 (by decide) ?_
  refine va_put (D := gD g) (ci := 11) (C := RX11) (T := TX11) (N := 50) (v := .int (0 : Int32)) (ty := .int) hx hb hts (fun w h => List.mem_cons_of_mem _ (isX110 w h)) tyX11 tyX11_ok nmX11 hown hK hI.1 hI.2.1 hI.2.2 0 rfl rfl 0 (by decide) (hts _ (List.mem_cons_of_mem _ mw208)) (fun _ h9 => h9) rfl (by decide +kernel) rfl rfl (Nat.le_of_ble_eq_true rfl) dX11_key_2 (fun H locs hP hD hS => ?_)
  have hI : cI (gD g) vwCl (mw g) A s (sI st 0 (0 : Int32)) H locs := ⟨hP, hD, hS⟩
  refine lv_aload_n hx hb dX11_key_5 rfl (lv_at hl 0 rfl) ?_
  refine va_get (D := gD g) (ci := 11) (C := RX11) (T := TX11) (N := 50) (v := .int (gI st 14)) hx hb hts (fun w h => List.mem_cons_of_mem _ (isX110 w h)) hown hK hI.1 0 rfl rfl 31 (by decide) (hts _ (List.mem_cons_of_mem _ mw221)) (fun _ h9 => h9) rfl dX11_key_6 ?_
  refine lv_if_eq (tgt := 14) hx hb dX11_key_9 (by decide) (fun c_9 => ?_) (fun c_9 => ?_)
  · have hF := hF.trans (if_pos c_9)
    refine lv_aload_n hx hb dX11_key_14 rfl (lv_at hl 0 rfl) ?_
    refine lv_iconst (v := (1 : Int32)) hx hb dX11_key_15 (by decide) ?_
    refine va_put (D := gD g) (ci := 11) (C := RX11) (T := TX11) (N := 50) (v := .int (1 : Int32)) (ty := .boolean) hx hb hts (fun w h => List.mem_cons_of_mem _ (isX110 w h)) tyX11 tyX11_ok nmX11 hown hK hI.1 hI.2.1 hI.2.2 0 rfl rfl 31 (by decide) (hts _ (List.mem_cons_of_mem _ mw221)) (fun _ h9 => h9) rfl (by decide +kernel) rfl rfl (Nat.le_of_ble_eq_true rfl) dX11_key_16 (fun H locs hP hD hS => ?_)
    have hI : cI (gD g) vwCl (mw g) A s (sI (sI st 0 (0 : Int32)) 14 (1 : Int32)) H locs := ⟨hP, hD, hS⟩
    refine lv_aload_n hx hb dX11_key_19 rfl (lv_at hl 0 rfl) ?_
    refine lv_iload_n hx hb dX11_key_20 rfl (lv_at hl 1 rfl) ?_
    refine lv_sipush (v := (255 : Int32)) hx hb dX11_key_21 (by decide) ?_
    refine lv_iand hx hb dX11_key_24 ?_
    refine va_put (D := gD g) (ci := 11) (C := RX11) (T := TX11) (N := 50) (v := .int (x1 &&& (255 : Int32))) (ty := .int) hx hb hts (fun w h => List.mem_cons_of_mem _ (isX110 w h)) tyX11 tyX11_ok nmX11 hown hK hI.1 hI.2.1 hI.2.2 0 rfl rfl 30 (by decide) (hts _ (List.mem_cons_of_mem _ mw220)) (fun _ h9 => h9) rfl (by decide +kernel) rfl rfl (Nat.le_of_ble_eq_true rfl) dX11_key_25 (fun H locs hP hD hS => ?_)
    have hI : cI (gD g) vwCl (mw g) A s (sI (sI (sI st 0 (0 : Int32)) 14 (1 : Int32)) 13 (x1 &&& (255 : Int32))) H locs := ⟨hP, hD, hS⟩
    refine lv_iconst (v := (1 : Int32)) hx hb dX11_key_28 (by decide) ?_
    exact cx_zret C hI (congrArg Prod.fst hF) (congrArg Prod.snd hF) rfl dX11_key_29
  · have hF := hF.trans (if_neg c_9)
    refine lv_iconst (v := (0 : Int32)) hx hb dX11_key_12 (by decide) ?_
    exact cx_zret C hI (congrArg Prod.fst hF) (congrArg Prod.snd hF) rfl dX11_key_13
set_option maxHeartbeats 4000000 in
set_option maxRecDepth 100000 in
theorem c_m_key (l : Launch) (g : Gm) (st : CS) (x1 : Int32) : Mi l yX11_key wq_X11_key rm_m_key (gD g) vwCl (mty g) (mw g) (mz g) [.ref (gad g 0), .int x1] st (m_key st x1).1 (m_key st x1).2 := by
  intro sz
  refine Met.ofW (cc := cX11_key) (maxL := 2) (ret := (some .boolean)) (by decide) rfl ?_
  intro p e s m args below meth c s₁ B hml hv
  obtain ⟨rfl, hsz, hP, hK, hD0, hZ⟩ := hv
  subst hsz
  have hl := lv_entry ([.ref (gad g 0), .int x1]) (n := 2) (Nat.le_of_ble_eq_true rfl)
  rw [lg_entry_eq]
  generalize (lg_sl ([.ref (gad g 0), .int x1]) ++ List.replicate (2 - (lg_sl ([.ref (gad g 0), .int x1])).length) Slot.unset).toArray = ls at hl ⊢
  exact k_m_key g ⟨B.exec, B.bytes, B.returns, hml, findClass_of_methodNamed B.named, atoms_spec (ws := wq_X11_key) B.pre, B.notSynchronized, hK, fun q h => Or.inr h, hZ, mz_ok g⟩ st x1 _ _ ls ⟨hP, hD0.self, va_S.rf⟩ hl _ rfl
abbrev wq_X11_whole : List Cond := .code yX11_whole cX11_whole 3 (some .int) :: wAll
theorem yd_yX11_whole : yX11_whole.cls = RX11 ∧ yX11_whole.cls ≠ "java/lang/invoke/MethodHandle" ∧ yX11_whole.cls ≠ "java/lang/invoke/VarHandle" ∧ (parseMethodDescriptor yX11_whole.desc).map (fun d => d.parameters.length) = some 0 := by decide +kernel
abbrev rm_m_whole : Room := { frames := 7, cells := 0, slots := 0, locals := 174 }
def m_whole_b26 (rec : CS → Int32 → Int32 → Option (CS × Int32)) (st : CS) (x1 : Int32) (x2 : Int32) : Option (CS × Int32) := (rec st x1 (x2 + (1 : Int32)))
def o_m_whole_b26 (orec : CS → Int32 → Int32 → Prop) (st : CS) (x1 : Int32) (x2 : Int32) : Prop := (orec st x1 (x2 + (1 : Int32)))
set_option maxHeartbeats 4000000 in
set_option maxRecDepth 100000 in
theorem k_m_whole_b26 {p : Program} {l : Launch} {e : Env} {s : State} {m : MethodId} {args : Array Value} {below : List Frame} {meth : Method} {c : Code} {A : Nat → Prop} (g : Gm) (C : cX p s m args meth c A cX11_whole (some .int) 3 RX11 wq_X11_whole (gD g) vwCl (mty g) (mz g)) (rec : CS → Int32 → Int32 → Option (CS × Int32)) (orec : CS → Int32 → Int32 → Prop) (hrec : ∀ (st : CS) (x1 : Int32) (x2 : Int32) (H : Heap) (locs : List Loc) (ls : Array Slot), cI (gD g) vwCl (mw g) A s st H locs → lv_has ls 3 [(0, .ref (gad g 0)), (1, .int x1), (2, .int x2)] → orec st x1 x2 → ∀ (X : CS × Int32), some X = rec st x1 x2 → W p l e rm_m_whole s m args below meth c H locs 0 0 (MQ below (cQi (gD g) vwCl (mty g) (mw g) A X.1 X.2) args s 0 0 A) (F0 m 17 ls [])) (st : CS) (x1 : Int32) (x2 : Int32) (H : Heap) (locs : List Loc) (ls : Array Slot) (hI : cI (gD g) vwCl (mw g) A s st H locs) (hl : lv_has ls 3 [(0, .ref (gad g 0)), (1, .int x1), (2, .int x2)]) (hO : o_m_whole_b26 orec st x1 x2) (X : CS × Int32) (hF : some X = m_whole_b26 rec st x1 x2) : W p l e rm_m_whole s m args below meth c H locs 0 0 (MQ below (cQi (gD g) vwCl (mty g) (mw g) A X.1 X.2) args s 0 0 A) (F0 m 26 ls []) := by
  obtain ⟨hx, hb, hr, hml, hown, hts, hlocks, hK, hA, hZ, hzo⟩ := id C
  unfold m_whole_b26 at hF
  unfold o_m_whole_b26 at hO
  refine lv_iinc (v := (x2 + (1 : Int32))) (lv' := [(2, .int (x2 + (1 : Int32))), (0, .ref (gad g 0)), (1, .int x1)]) hx hb dX11_whole_26 hl (k := 2) rfl rfl (by decide) rfl (fun ls hl => ?_)
  refine lv_goto (tgt := 17) hx hb dX11_whole_29 (by decide) ?_
  exact hrec st x1 (x2 + (1 : Int32)) H locs ls hI (lv_sub hl [1, 2, 0] rfl) hO X hF
def m_whole_b17 : Nat → CS → Int32 → Int32 → Option (CS × Int32)
  | 0, _, _, _ => none
  | n + 1, st, x1, x2 => (if (x1 ≤ x2) then (some (st, x1)) else (m_whole_b26 (m_whole_b17 n) (m_tick st) x1 x2))
def o_m_whole_b17 : Nat → CS → Int32 → Int32 → Prop
  | 0, _, _, _ => True
  | n + 1, st, x1, x2 => (((x1 ≤ x2) → True) ∧ (¬ (x1 ≤ x2) → ((o_m_tick st) ∧ (o_m_whole_b26 (o_m_whole_b17 n) (m_tick st) x1 x2))))
set_option maxHeartbeats 4000000 in
set_option maxRecDepth 100000 in
theorem k_m_whole_b17 {p : Program} {l : Launch} {e : Env} {s : State} {m : MethodId} {args : Array Value} {below : List Frame} {meth : Method} {c : Code} {A : Nat → Prop} (g : Gm) (C : cX p s m args meth c A cX11_whole (some .int) 3 RX11 wq_X11_whole (gD g) vwCl (mty g) (mz g)) : ∀ (n : Nat) (st : CS) (x1 : Int32) (x2 : Int32) (H : Heap) (locs : List Loc) (ls : Array Slot), cI (gD g) vwCl (mw g) A s st H locs → lv_has ls 3 [(0, .ref (gad g 0)), (1, .int x1), (2, .int x2)] → o_m_whole_b17 n st x1 x2 → ∀ (X : CS × Int32), some X = m_whole_b17 n st x1 x2 → W p l e rm_m_whole s m args below meth c H locs 0 0 (MQ below (cQi (gD g) vwCl (mty g) (mw g) A X.1 X.2) args s 0 0 A) (F0 m 17 ls []) := by
  obtain ⟨hx, hb, hr, hml, hown, hts, hlocks, hK, hA, hZ, hzo⟩ := id C
  intro n
  induction n with
  | zero => intro st x1 x2 H locs ls hI hl hO X hF; exact absurd hF (by simp [m_whole_b17])
  | succ n ih =>
    intro st x1 x2 H locs ls hI hl hO X hF
    rw [m_whole_b17] at hF
    rw [o_m_whole_b17] at hO
    refine lv_iload_n hx hb dX11_whole_17 rfl (lv_at hl 2 rfl) ?_
    refine lv_iload_n hx hb dX11_whole_18 rfl (lv_at hl 1 rfl) ?_
    refine lv_icmp_ge (tgt := 32) hx hb dX11_whole_19 (by decide) (fun c_19 => ?_) (fun c_19 => ?_)
    · have hF := hF.trans (if_pos c_19)
      have hO := hO.1 c_19
      refine lv_iload_n hx hb dX11_whole_32 rfl (lv_at hl 1 rfl) ?_
      have hF := Option.some.inj hF
      exact cx_iret C hI (congrArg Prod.fst hF) (congrArg Prod.snd hF) dX11_whole_33
    · have hF := hF.trans (if_neg c_19)
      have hO := hO.2 c_19
      refine lv_aload_n hx hb dX11_whole_22 rfl (lv_at hl 0 rfl) ?_
      have hq_23_0 := hO.1
      have hO := hO.2
      refine cx_Vv (As := []) (rest := []) C (c_m_tick l g st  hq_23_0) (cwV 0 hts (gd_V _ mw920 mw921 mw922 mw3 mw923) rfl rfl rfl yd_yX11_tick ⟨Nat.le_of_ble_eq_true rfl, Nat.le_of_ble_eq_true rfl⟩) (va_recv hK hI.1 (ci := 11) (q0 := 0) rfl rfl) hI rfl hl.1 rfl (Nat.le_of_ble_eq_true rfl) dX11_whole_23 (fun H locs hI => ?_)
      exact k_m_whole_b26 g C (m_whole_b17 n) (o_m_whole_b17 n) ih (m_tick st) x1 x2 H locs ls hI (lv_sub hl [0, 1, 2] rfl) hO X hF
def m_whole_b17t (st : CS) (x1 : Int32) (x2 : Int32) : CS × Int32 := (m_whole_b17 (x1.toNatClampNeg + 1) st x1 x2).getD (st, 0)
def o_m_whole_b17t (st : CS) (x1 : Int32) (x2 : Int32) : Prop := o_m_whole_b17 (x1.toNatClampNeg + 1) st x1 x2 ∧ ∃ r, m_whole_b17 (x1.toNatClampNeg + 1) st x1 x2 = some r
set_option maxHeartbeats 4000000 in
set_option maxRecDepth 100000 in
theorem k_m_whole_b17t {p : Program} {l : Launch} {e : Env} {s : State} {m : MethodId} {args : Array Value} {below : List Frame} {meth : Method} {c : Code} {A : Nat → Prop} (g : Gm) (C : cX p s m args meth c A cX11_whole (some .int) 3 RX11 wq_X11_whole (gD g) vwCl (mty g) (mz g)) (st : CS) (x1 : Int32) (x2 : Int32) (H : Heap) (locs : List Loc) (ls : Array Slot) (hI : cI (gD g) vwCl (mw g) A s st H locs) (hl : lv_has ls 3 [(0, .ref (gad g 0)), (1, .int x1), (2, .int x2)]) (hO : o_m_whole_b17t st x1 x2) (X : CS × Int32) (hF : X = m_whole_b17t st x1 x2) : W p l e rm_m_whole s m args below meth c H locs 0 0 (MQ below (cQi (gD g) vwCl (mty g) (mw g) A X.1 X.2) args s 0 0 A) (F0 m 17 ls []) := by
  refine k_m_whole_b17 g C (x1.toNatClampNeg + 1) st x1 x2 H locs ls hI hl hO.1 X ?_
  rw [hF]
  exact some_getD hO.2
def m_whole_b4 (st : CS) (y0 : Int32) : CS × Int32 := (m_whole_b17t (sL st 3 ((gL st 3) + (1 : Int64))) y0 (0 : Int32))
def o_m_whole_b4 (st : CS) (y0 : Int32) : Prop := (o_m_whole_b17t (sL st 3 ((gL st 3) + (1 : Int64))) y0 (0 : Int32))
set_option maxHeartbeats 4000000 in
set_option maxRecDepth 100000 in
theorem k_m_whole_b4 {p : Program} {l : Launch} {e : Env} {s : State} {m : MethodId} {args : Array Value} {below : List Frame} {meth : Method} {c : Code} {A : Nat → Prop} (g : Gm) (C : cX p s m args meth c A cX11_whole (some .int) 3 RX11 wq_X11_whole (gD g) vwCl (mty g) (mz g)) (st : CS) (y0 : Int32) (H : Heap) (locs : List Loc) (ls : Array Slot) (hI : cI (gD g) vwCl (mw g) A s st H locs) (hl : lv_has ls 3 [(0, .ref (gad g 0))]) (hO : o_m_whole_b4 st y0) (X : CS × Int32) (hF : X = m_whole_b4 st y0) : W p l e rm_m_whole s m args below meth c H locs 0 0 (MQ below (cQi (gD g) vwCl (mty g) (mw g) A X.1 X.2) args s 0 0 A) (F0 m 4 ls [.int y0]) := by
  obtain ⟨hx, hb, hr, hml, hown, hts, hlocks, hK, hA, hZ, hzo⟩ := id C
  unfold m_whole_b4 at hF
  unfold o_m_whole_b4 at hO
  refine lv_istore_n (lv' := [(1, .int y0), (0, .ref (gad g 0))]) hx hb dX11_whole_4 rfl hl (by decide) rfl (fun ls hl => ?_)
  refine lv_aload_n hx hb dX11_whole_5 rfl (lv_at hl 1 rfl) ?_
  refine lv_dup hx hb dX11_whole_6 rfl ?_
  refine va_get (D := gD g) (ci := 11) (C := RX11) (T := TX11) (N := 50) (v := .long (gL st 3)) hx hb hts (fun w h => List.mem_cons_of_mem _ (isX110 w h)) hown hK hI.1 0 rfl rfl 45 (by decide) (hts _ (List.mem_cons_of_mem _ mw743)) (fun _ h9 => h9) rfl dX11_whole_7 ?_
  refine lv_lconst (v := (1 : Int64)) hx hb dX11_whole_10 (by decide) ?_
  refine lv_ladd hx hb dX11_whole_11 ?_
  refine va_put (D := gD g) (ci := 11) (C := RX11) (T := TX11) (N := 50) (v := .long ((gL st 3) + (1 : Int64))) (ty := .long) hx hb hts (fun w h => List.mem_cons_of_mem _ (isX110 w h)) tyX11 tyX11_ok nmX11 hown hK hI.1 hI.2.1 hI.2.2 0 rfl rfl 45 (by decide) (hts _ (List.mem_cons_of_mem _ mw743)) (fun _ h9 => h9) rfl (by decide +kernel) rfl rfl (Nat.le_of_ble_eq_true rfl) dX11_whole_12 (fun H locs hP hD hS => ?_)
  have hI : cI (gD g) vwCl (mw g) A s (sL st 3 ((gL st 3) + (1 : Int64))) H locs := ⟨hP, hD, hS⟩
  refine lv_iconst (v := (0 : Int32)) hx hb dX11_whole_15 (by decide) ?_
  refine lv_istore_n (lv' := [(2, .int (0 : Int32)), (1, .int y0), (0, .ref (gad g 0))]) hx hb dX11_whole_16 rfl hl (by decide) rfl (fun ls hl => ?_)
  exact k_m_whole_b17t g C (sL st 3 ((gL st 3) + (1 : Int64))) y0 (0 : Int32) H locs ls hI (lv_sub hl [2, 1, 0] rfl) hO X hF
def m_whole (st : CS) : CS × Int32 := (m_whole_b4 (m_one st).1 (m_one st).2)
def o_m_whole (st : CS) : Prop := ((o_m_one st) ∧ (o_m_whole_b4 (m_one st).1 (m_one st).2))
set_option maxHeartbeats 4000000 in
set_option maxRecDepth 100000 in
theorem k_m_whole {p : Program} {l : Launch} {e : Env} {s : State} {m : MethodId} {args : Array Value} {below : List Frame} {meth : Method} {c : Code} {A : Nat → Prop} (g : Gm) (C : cX p s m args meth c A cX11_whole (some .int) 3 RX11 wq_X11_whole (gD g) vwCl (mty g) (mz g)) (st : CS) (H : Heap) (locs : List Loc) (ls : Array Slot) (hI : cI (gD g) vwCl (mw g) A s st H locs) (hl : lv_has ls 3 [(0, .ref (gad g 0))]) (hO : o_m_whole st) (X : CS × Int32) (hF : X = m_whole st) : W p l e rm_m_whole s m args below meth c H locs 0 0 (MQ below (cQi (gD g) vwCl (mty g) (mw g) A X.1 X.2) args s 0 0 A) (F0 m 0 ls []) := by
  obtain ⟨hx, hb, hr, hml, hown, hts, hlocks, hK, hA, hZ, hzo⟩ := id C
  unfold m_whole at hF
  unfold o_m_whole at hO
  refine lv_aload_n hx hb dX11_whole_0 rfl (lv_at hl 0 rfl) ?_
  have hq_1_0 := hO.1
  have hO := hO.2
  refine cx_Vi (As := []) (rest := []) C (c_m_one l g st  hq_1_0) (cwV 0 hts (gd_V _ mw744 mw745 mw746 mw3 mw747) rfl rfl rfl yd_yX11_one ⟨Nat.le_of_ble_eq_true rfl, Nat.le_of_ble_eq_true rfl⟩) (va_recv hK hI.1 (ci := 11) (q0 := 0) rfl rfl) hI rfl hl.1 rfl (Nat.le_of_ble_eq_true rfl) dX11_whole_1 (fun H locs hI => ?_)
  exact k_m_whole_b4 g C (m_one st).1 (m_one st).2 H locs ls hI (lv_sub hl [0] rfl) hO X hF
set_option maxHeartbeats 4000000 in
set_option maxRecDepth 100000 in
theorem c_m_whole (l : Launch) (g : Gm) (st : CS) (hO : o_m_whole st) : Mi l yX11_whole wq_X11_whole rm_m_whole (gD g) vwCl (mty g) (mw g) (mz g) [.ref (gad g 0)] st (m_whole st).1 (m_whole st).2 := by
  intro sz
  refine Met.ofW (cc := cX11_whole) (maxL := 3) (ret := (some .int)) (by decide) rfl ?_
  intro p e s m args below meth c s₁ B hml hv
  obtain ⟨rfl, hsz, hP, hK, hD0, hZ⟩ := hv
  subst hsz
  have hl := lv_entry ([.ref (gad g 0)]) (n := 3) (Nat.le_of_ble_eq_true rfl)
  rw [lg_entry_eq]
  generalize (lg_sl ([.ref (gad g 0)]) ++ List.replicate (3 - (lg_sl ([.ref (gad g 0)])).length) Slot.unset).toArray = ls at hl ⊢
  exact k_m_whole g ⟨B.exec, B.bytes, B.returns, hml, findClass_of_methodNamed B.named, atoms_spec (ws := wq_X11_whole) B.pre, B.notSynchronized, hK, fun q h => Or.inr h, hZ, mz_ok g⟩ st  _ _ ls ⟨hP, hD0.self, va_S.rf⟩ hl hO _ rfl
abbrev wq_X11_stops : List Cond := .code yX11_stops cX11_stops 1 (some .boolean) :: wAll
theorem yd_yX11_stops : yX11_stops.cls = RX11 ∧ yX11_stops.cls ≠ "java/lang/invoke/MethodHandle" ∧ yX11_stops.cls ≠ "java/lang/invoke/VarHandle" ∧ (parseMethodDescriptor yX11_stops.desc).map (fun d => d.parameters.length) = some 0 := by decide +kernel
abbrev rm_m_stops : Room := { frames := 0, cells := 0, slots := 0, locals := 0 }
def m_stops (st : CS) : Int32 := (if ((gI st 24) = (-1 : Int32)) then (0 : Int32) else (if (((gI st 1) &&& (67108860 : Int32)) = (gI st 24)) then (1 : Int32) else (0 : Int32)))
set_option maxHeartbeats 4000000 in
set_option maxRecDepth 100000 in
theorem k_m_stops {p : Program} {l : Launch} {e : Env} {s : State} {m : MethodId} {args : Array Value} {below : List Frame} {meth : Method} {c : Code} {A : Nat → Prop} (g : Gm) (C : cX p s m args meth c A cX11_stops (some .boolean) 1 RX11 wq_X11_stops (gD g) vwCl (mty g) (mz g)) (st : CS) (H : Heap) (locs : List Loc) (ls : Array Slot) (hI : cI (gD g) vwCl (mw g) A s st H locs) (hl : lv_has ls 1 [(0, .ref (gad g 0))]) (X : Int32) (hF : X = m_stops st) : W p l e rm_m_stops s m args below meth c H locs 0 0 (MQ below (cQi (gD g) vwCl (mty g) (mw g) A st X) args s 0 0 A) (F0 m 0 ls []) := by
  obtain ⟨hx, hb, hr, hml, hown, hts, hlocks, hK, hA, hZ, hzo⟩ := id C
  unfold m_stops at hF
  refine lv_aload_n hx hb dX11_stops_0 rfl (lv_at hl 0 rfl) ?_
  refine va_get (D := gD g) (ci := 11) (C := RX11) (T := TX11) (N := 50) (v := .int (gI st 24)) hx hb hts (fun w h => List.mem_cons_of_mem _ (isX110 w h)) hown hK hI.1 0 rfl rfl 43 (by decide) (hts _ (List.mem_cons_of_mem _ mw202)) (fun _ h9 => h9) rfl dX11_stops_1 ?_
  refine lv_iconst (v := (-1 : Int32)) hx hb dX11_stops_4 (by decide) ?_
  refine lv_icmp_eq (tgt := 26) hx hb dX11_stops_5 (by decide) (fun c_5 => ?_) (fun c_5 => ?_)
  · have hF := hF.trans (if_pos c_5)
    refine lv_iconst (v := (0 : Int32)) hx hb dX11_stops_26 (by decide) ?_
    exact cx_zret C hI rfl hF rfl dX11_stops_27
  · have hF := hF.trans (if_neg c_5)
    refine lv_aload_n hx hb dX11_stops_8 rfl (lv_at hl 0 rfl) ?_
    refine va_get (D := gD g) (ci := 11) (C := RX11) (T := TX11) (N := 50) (v := .int (gI st 1)) hx hb hts (fun w h => List.mem_cons_of_mem _ (isX110 w h)) hown hK hI.1 0 rfl rfl 5 (by decide) (hts _ (List.mem_cons_of_mem _ mw210)) (fun _ h9 => h9) rfl dX11_stops_9 ?_
    refine lv_ldc (v := (67108860 : Int32)) hx hb hown (hts _ (List.mem_cons_of_mem _ mw748)) dX11_stops_12 ?_
    refine lv_iand hx hb dX11_stops_14 ?_
    refine lv_aload_n hx hb dX11_stops_15 rfl (lv_at hl 0 rfl) ?_
    refine va_get (D := gD g) (ci := 11) (C := RX11) (T := TX11) (N := 50) (v := .int (gI st 24)) hx hb hts (fun w h => List.mem_cons_of_mem _ (isX110 w h)) hown hK hI.1 0 rfl rfl 43 (by decide) (hts _ (List.mem_cons_of_mem _ mw202)) (fun _ h9 => h9) rfl dX11_stops_16 ?_
    refine lv_icmp_ne (tgt := 26) hx hb dX11_stops_19 (by decide) (fun c_19 => ?_) (fun c_19 => ?_)
    · have hF := hF.trans (if_neg c_19)
      refine lv_iconst (v := (0 : Int32)) hx hb dX11_stops_26 (by decide) ?_
      exact cx_zret C hI rfl hF rfl dX11_stops_27
    · have hF := hF.trans (if_pos c_19)
      refine lv_iconst (v := (1 : Int32)) hx hb dX11_stops_22 (by decide) ?_
      refine lv_goto (tgt := 27) hx hb dX11_stops_23 (by decide) ?_
      exact cx_zret C hI rfl hF rfl dX11_stops_27
set_option maxHeartbeats 4000000 in
set_option maxRecDepth 100000 in
theorem c_m_stops (l : Launch) (g : Gm) (st : CS) : Mi l yX11_stops wq_X11_stops rm_m_stops (gD g) vwCl (mty g) (mw g) (mz g) [.ref (gad g 0)] st st (m_stops st) := by
  intro sz
  refine Met.ofW (cc := cX11_stops) (maxL := 1) (ret := (some .boolean)) (by decide) rfl ?_
  intro p e s m args below meth c s₁ B hml hv
  obtain ⟨rfl, hsz, hP, hK, hD0, hZ⟩ := hv
  subst hsz
  have hl := lv_entry ([.ref (gad g 0)]) (n := 1) (Nat.le_of_ble_eq_true rfl)
  rw [lg_entry_eq]
  generalize (lg_sl ([.ref (gad g 0)]) ++ List.replicate (1 - (lg_sl ([.ref (gad g 0)])).length) Slot.unset).toArray = ls at hl ⊢
  exact k_m_stops g ⟨B.exec, B.bytes, B.returns, hml, findClass_of_methodNamed B.named, atoms_spec (ws := wq_X11_stops) B.pre, B.notSynchronized, hK, fun q h => Or.inr h, hZ, mz_ok g⟩ st  _ _ ls ⟨hP, hD0.self, va_S.rf⟩ hl _ rfl
abbrev wq_X11_step : List Cond := .code yX11_step cX11_step 5 (some .int) :: wAll
theorem yd_yX11_step : yX11_step.cls = RX11 ∧ yX11_step.cls ≠ "java/lang/invoke/MethodHandle" ∧ yX11_step.cls ≠ "java/lang/invoke/VarHandle" ∧ (parseMethodDescriptor yX11_step.desc).map (fun d => d.parameters.length) = some 1 := by decide +kernel
abbrev rm_m_step : Room := { frames := 8, cells := 0, slots := 0, locals := 196 }
def m_step_b60 (rec : CS → Int32 → Int32 → Int32 → Option (CS × Int32)) (st : CS) (x1 : Int32) (x2 : Int32) (y0 : Int32) : Option (CS × Int32) := (rec st x1 x2 y0)
def o_m_step_b60 (orec : CS → Int32 → Int32 → Int32 → Prop) (st : CS) (x1 : Int32) (x2 : Int32) (y0 : Int32) : Prop := (orec st x1 x2 y0)
set_option maxHeartbeats 4000000 in
set_option maxRecDepth 100000 in
theorem k_m_step_b60 {p : Program} {l : Launch} {e : Env} {s : State} {m : MethodId} {args : Array Value} {below : List Frame} {meth : Method} {c : Code} {A : Nat → Prop} (g : Gm) (C : cX p s m args meth c A cX11_step (some .int) 5 RX11 wq_X11_step (gD g) vwCl (mty g) (mz g)) (rec : CS → Int32 → Int32 → Int32 → Option (CS × Int32)) (orec : CS → Int32 → Int32 → Int32 → Prop) (hrec : ∀ (st : CS) (x1 : Int32) (x2 : Int32) (x3 : Int32) (H : Heap) (locs : List Loc) (ls : Array Slot), cI (gD g) vwCl (mw g) A s st H locs → lv_has ls 5 [(0, .ref (gad g 0)), (1, .int x1), (2, .int x2), (3, .int x3)] → orec st x1 x2 x3 → ∀ (X : CS × Int32), some X = rec st x1 x2 x3 → W p l e rm_m_step s m args below meth c H locs 0 0 (MQ below (cQi (gD g) vwCl (mty g) (mw g) A X.1 X.2) args s 0 0 A) (F0 m 25 ls [])) (st : CS) (x1 : Int32) (x2 : Int32) (y0 : Int32) (H : Heap) (locs : List Loc) (ls : Array Slot) (hI : cI (gD g) vwCl (mw g) A s st H locs) (hl : lv_has ls 5 [(0, .ref (gad g 0)), (1, .int x1), (2, .int x2)]) (hO : o_m_step_b60 orec st x1 x2 y0) (X : CS × Int32) (hF : some X = m_step_b60 rec st x1 x2 y0) : W p l e rm_m_step s m args below meth c H locs 0 0 (MQ below (cQi (gD g) vwCl (mty g) (mw g) A X.1 X.2) args s 0 0 A) (F0 m 60 ls [.int y0]) := by
  obtain ⟨hx, hb, hr, hml, hown, hts, hlocks, hK, hA, hZ, hzo⟩ := id C
  unfold m_step_b60 at hF
  unfold o_m_step_b60 at hO
  refine lv_istore_n (lv' := [(3, .int y0), (0, .ref (gad g 0)), (1, .int x1), (2, .int x2)]) hx hb dX11_step_60 rfl hl (by decide) rfl (fun ls hl => ?_)
  refine lv_goto (tgt := 25) hx hb dX11_step_61 (by decide) ?_
  exact hrec st x1 x2 y0 H locs ls hI (lv_sub hl [1, 2, 3, 0] rfl) hO X hF
def m_step_b59 (rec : CS → Int32 → Int32 → Int32 → Option (CS × Int32)) (st : CS) (x1 : Int32) (x2 : Int32) : Option (CS × Int32) := (m_step_b60 rec st x1 x2 (0 : Int32))
def o_m_step_b59 (orec : CS → Int32 → Int32 → Int32 → Prop) (st : CS) (x1 : Int32) (x2 : Int32) : Prop := (o_m_step_b60 orec st x1 x2 (0 : Int32))
set_option maxHeartbeats 4000000 in
set_option maxRecDepth 100000 in
theorem k_m_step_b59 {p : Program} {l : Launch} {e : Env} {s : State} {m : MethodId} {args : Array Value} {below : List Frame} {meth : Method} {c : Code} {A : Nat → Prop} (g : Gm) (C : cX p s m args meth c A cX11_step (some .int) 5 RX11 wq_X11_step (gD g) vwCl (mty g) (mz g)) (rec : CS → Int32 → Int32 → Int32 → Option (CS × Int32)) (orec : CS → Int32 → Int32 → Int32 → Prop) (hrec : ∀ (st : CS) (x1 : Int32) (x2 : Int32) (x3 : Int32) (H : Heap) (locs : List Loc) (ls : Array Slot), cI (gD g) vwCl (mw g) A s st H locs → lv_has ls 5 [(0, .ref (gad g 0)), (1, .int x1), (2, .int x2), (3, .int x3)] → orec st x1 x2 x3 → ∀ (X : CS × Int32), some X = rec st x1 x2 x3 → W p l e rm_m_step s m args below meth c H locs 0 0 (MQ below (cQi (gD g) vwCl (mty g) (mw g) A X.1 X.2) args s 0 0 A) (F0 m 25 ls [])) (st : CS) (x1 : Int32) (x2 : Int32) (H : Heap) (locs : List Loc) (ls : Array Slot) (hI : cI (gD g) vwCl (mw g) A s st H locs) (hl : lv_has ls 5 [(0, .ref (gad g 0)), (1, .int x1), (2, .int x2)]) (hO : o_m_step_b59 orec st x1 x2) (X : CS × Int32) (hF : some X = m_step_b59 rec st x1 x2) : W p l e rm_m_step s m args below meth c H locs 0 0 (MQ below (cQi (gD g) vwCl (mty g) (mw g) A X.1 X.2) args s 0 0 A) (F0 m 59 ls []) := by
  obtain ⟨hx, hb, hr, hml, hown, hts, hlocks, hK, hA, hZ, hzo⟩ := id C
  unfold m_step_b59 at hF
  unfold o_m_step_b59 at hO
  refine lv_iconst (v := (0 : Int32)) hx hb dX11_step_59 (by decide) ?_
  exact k_m_step_b60 g C rec orec hrec st x1 x2 (0 : Int32) H locs ls hI (lv_sub hl [0, 1, 2] rfl) hO X hF
def m_step_b33 (rec : CS → Int32 → Int32 → Int32 → Option (CS × Int32)) (st : CS) (x1 : Int32) (x2 : Int32) (y0 : Int32) : Option (CS × Int32) := (if (y0 ≤ 0) then (m_step_b59 rec st x1 (x2 + (1 : Int32))) else (if (x1 ≤ (x2 + (1 : Int32))) then (m_step_b59 rec st x1 (x2 + (1 : Int32))) else (if ((m_stops st) = 0) then (m_step_b60 rec st x1 (x2 + (1 : Int32)) (1 : Int32)) else (m_step_b59 rec st x1 (x2 + (1 : Int32))))))
def o_m_step_b33 (orec : CS → Int32 → Int32 → Int32 → Prop) (st : CS) (x1 : Int32) (x2 : Int32) (y0 : Int32) : Prop := (((y0 ≤ 0) → (o_m_step_b59 orec st x1 (x2 + (1 : Int32)))) ∧ (¬ (y0 ≤ 0) → (((x1 ≤ (x2 + (1 : Int32))) → (o_m_step_b59 orec st x1 (x2 + (1 : Int32)))) ∧ (¬ (x1 ≤ (x2 + (1 : Int32))) → ((((m_stops st) = 0) → (o_m_step_b60 orec st x1 (x2 + (1 : Int32)) (1 : Int32))) ∧ (¬ ((m_stops st) = 0) → (o_m_step_b59 orec st x1 (x2 + (1 : Int32)))))))))
set_option maxHeartbeats 4000000 in
set_option maxRecDepth 100000 in
theorem k_m_step_b33 {p : Program} {l : Launch} {e : Env} {s : State} {m : MethodId} {args : Array Value} {below : List Frame} {meth : Method} {c : Code} {A : Nat → Prop} (g : Gm) (C : cX p s m args meth c A cX11_step (some .int) 5 RX11 wq_X11_step (gD g) vwCl (mty g) (mz g)) (rec : CS → Int32 → Int32 → Int32 → Option (CS × Int32)) (orec : CS → Int32 → Int32 → Int32 → Prop) (hrec : ∀ (st : CS) (x1 : Int32) (x2 : Int32) (x3 : Int32) (H : Heap) (locs : List Loc) (ls : Array Slot), cI (gD g) vwCl (mw g) A s st H locs → lv_has ls 5 [(0, .ref (gad g 0)), (1, .int x1), (2, .int x2), (3, .int x3)] → orec st x1 x2 x3 → ∀ (X : CS × Int32), some X = rec st x1 x2 x3 → W p l e rm_m_step s m args below meth c H locs 0 0 (MQ below (cQi (gD g) vwCl (mty g) (mw g) A X.1 X.2) args s 0 0 A) (F0 m 25 ls [])) (st : CS) (x1 : Int32) (x2 : Int32) (y0 : Int32) (H : Heap) (locs : List Loc) (ls : Array Slot) (hI : cI (gD g) vwCl (mw g) A s st H locs) (hl : lv_has ls 5 [(0, .ref (gad g 0)), (1, .int x1), (2, .int x2)]) (hO : o_m_step_b33 orec st x1 x2 y0) (X : CS × Int32) (hF : some X = m_step_b33 rec st x1 x2 y0) : W p l e rm_m_step s m args below meth c H locs 0 0 (MQ below (cQi (gD g) vwCl (mty g) (mw g) A X.1 X.2) args s 0 0 A) (F0 m 33 ls [.int y0]) := by
  obtain ⟨hx, hb, hr, hml, hown, hts, hlocks, hK, hA, hZ, hzo⟩ := id C
  unfold m_step_b33 at hF
  unfold o_m_step_b33 at hO
  refine lv_istore (lv' := [(4, .int y0), (0, .ref (gad g 0)), (1, .int x1), (2, .int x2)]) hx hb dX11_step_33 hl (by decide) rfl (fun ls hl => ?_)
  refine lv_iinc (v := (x2 + (1 : Int32))) (lv' := [(2, .int (x2 + (1 : Int32))), (4, .int y0), (0, .ref (gad g 0)), (1, .int x1)]) hx hb dX11_step_35 hl (k := 3) rfl rfl (by decide) rfl (fun ls hl => ?_)
  refine lv_iload hx hb dX11_step_38 (lv_at hl 1 rfl) ?_
  refine lv_if_le (tgt := 59) hx hb dX11_step_40 (by decide) (fun c_40 => ?_) (fun c_40 => ?_)
  · have hF := hF.trans (if_pos c_40)
    have hO := hO.1 c_40
    exact k_m_step_b59 g C rec orec hrec st x1 (x2 + (1 : Int32)) H locs ls hI (lv_sub hl [2, 3, 0] rfl) hO X hF
  · have hF := hF.trans (if_neg c_40)
    have hO := hO.2 c_40
    refine lv_iload_n hx hb dX11_step_43 rfl (lv_at hl 0 rfl) ?_
    refine lv_iload_n hx hb dX11_step_44 rfl (lv_at hl 3 rfl) ?_
    refine lv_icmp_ge (tgt := 59) hx hb dX11_step_45 (by decide) (fun c_45 => ?_) (fun c_45 => ?_)
    · have hF := hF.trans (if_pos c_45)
      have hO := hO.1 c_45
      exact k_m_step_b59 g C rec orec hrec st x1 (x2 + (1 : Int32)) H locs ls hI (lv_sub hl [2, 3, 0] rfl) hO X hF
    · have hF := hF.trans (if_neg c_45)
      have hO := hO.2 c_45
      refine lv_aload_n hx hb dX11_step_48 rfl (lv_at hl 2 rfl) ?_
      refine cx_Vi (As := []) (rest := []) C (c_m_stops l g st ) (cwV 0 hts (gd_V _ mw939 mw940 mw941 mw3 mw942) rfl rfl rfl yd_yX11_stops ⟨Nat.le_of_ble_eq_true rfl, Nat.le_of_ble_eq_true rfl⟩) (va_recv hK hI.1 (ci := 11) (q0 := 0) rfl rfl) hI rfl hl.1 rfl (Nat.le_of_ble_eq_true rfl) dX11_step_49 (fun H locs hI => ?_)
      refine lv_if_ne (tgt := 59) hx hb dX11_step_52 (by decide) (fun c_52 => ?_) (fun c_52 => ?_)
      · have hF := hF.trans (if_neg c_52)
        have hO := hO.2 c_52
        exact k_m_step_b59 g C rec orec hrec st x1 (x2 + (1 : Int32)) H locs ls hI (lv_sub hl [2, 3, 0] rfl) hO X hF
      · have hF := hF.trans (if_pos c_52)
        have hO := hO.1 c_52
        refine lv_iconst (v := (1 : Int32)) hx hb dX11_step_55 (by decide) ?_
        refine lv_goto (tgt := 60) hx hb dX11_step_56 (by decide) ?_
        exact k_m_step_b60 g C rec orec hrec st x1 (x2 + (1 : Int32)) (1 : Int32) H locs ls hI (lv_sub hl [2, 3, 0] rfl) hO X hF
def m_step_b25 : Nat → CS → Int32 → Int32 → Int32 → Option (CS × Int32)
  | 0, _, _, _, _ => none
  | n + 1, st, x1, x2, x3 => (if (x3 = 0) then (some (st, x2)) else (m_step_b33 (m_step_b25 n) (m_whole st).1 x1 x2 (m_whole st).2))
def o_m_step_b25 : Nat → CS → Int32 → Int32 → Int32 → Prop
  | 0, _, _, _, _ => True
  | n + 1, st, x1, x2, x3 => (((x3 = 0) → True) ∧ (¬ (x3 = 0) → ((o_m_whole st) ∧ (o_m_step_b33 (o_m_step_b25 n) (m_whole st).1 x1 x2 (m_whole st).2))))
set_option maxHeartbeats 4000000 in
set_option maxRecDepth 100000 in
theorem k_m_step_b25 {p : Program} {l : Launch} {e : Env} {s : State} {m : MethodId} {args : Array Value} {below : List Frame} {meth : Method} {c : Code} {A : Nat → Prop} (g : Gm) (C : cX p s m args meth c A cX11_step (some .int) 5 RX11 wq_X11_step (gD g) vwCl (mty g) (mz g)) : ∀ (n : Nat) (st : CS) (x1 : Int32) (x2 : Int32) (x3 : Int32) (H : Heap) (locs : List Loc) (ls : Array Slot), cI (gD g) vwCl (mw g) A s st H locs → lv_has ls 5 [(0, .ref (gad g 0)), (1, .int x1), (2, .int x2), (3, .int x3)] → o_m_step_b25 n st x1 x2 x3 → ∀ (X : CS × Int32), some X = m_step_b25 n st x1 x2 x3 → W p l e rm_m_step s m args below meth c H locs 0 0 (MQ below (cQi (gD g) vwCl (mty g) (mw g) A X.1 X.2) args s 0 0 A) (F0 m 25 ls []) := by
  obtain ⟨hx, hb, hr, hml, hown, hts, hlocks, hK, hA, hZ, hzo⟩ := id C
  intro n
  induction n with
  | zero => intro st x1 x2 x3 H locs ls hI hl hO X hF; exact absurd hF (by simp [m_step_b25])
  | succ n ih =>
    intro st x1 x2 x3 H locs ls hI hl hO X hF
    rw [m_step_b25] at hF
    rw [o_m_step_b25] at hO
    refine lv_iload_n hx hb dX11_step_25 rfl (lv_at hl 3 rfl) ?_
    refine lv_if_eq (tgt := 64) hx hb dX11_step_26 (by decide) (fun c_26 => ?_) (fun c_26 => ?_)
    · have hF := hF.trans (if_pos c_26)
      have hO := hO.1 c_26
      refine lv_iload_n hx hb dX11_step_64 rfl (lv_at hl 2 rfl) ?_
      have hF := Option.some.inj hF
      exact cx_iret C hI (congrArg Prod.fst hF) (congrArg Prod.snd hF) dX11_step_65
    · have hF := hF.trans (if_neg c_26)
      have hO := hO.2 c_26
      refine lv_aload_n hx hb dX11_step_29 rfl (lv_at hl 0 rfl) ?_
      have hq_30_0 := hO.1
      have hO := hO.2
      refine cx_Vi (As := []) (rest := []) C (c_m_whole l g st  hq_30_0) (cwV 0 hts (gd_V _ mw739 mw740 mw741 mw3 mw742) rfl rfl rfl yd_yX11_whole ⟨Nat.le_of_ble_eq_true rfl, Nat.le_of_ble_eq_true rfl⟩) (va_recv hK hI.1 (ci := 11) (q0 := 0) rfl rfl) hI rfl hl.1 rfl (Nat.le_of_ble_eq_true rfl) dX11_step_30 (fun H locs hI => ?_)
      exact k_m_step_b33 g C (m_step_b25 n) (o_m_step_b25 n) ih (m_whole st).1 x1 x2 (m_whole st).2 H locs ls hI (lv_sub hl [0, 1, 2] rfl) hO X hF
def m_step_b25t (st : CS) (x1 : Int32) (x2 : Int32) (x3 : Int32) : CS × Int32 := (m_step_b25 (x1.toNatClampNeg + 1) st x1 x2 x3).getD (st, 0)
def o_m_step_b25t (st : CS) (x1 : Int32) (x2 : Int32) (x3 : Int32) : Prop := o_m_step_b25 (x1.toNatClampNeg + 1) st x1 x2 x3 ∧ ∃ r, m_step_b25 (x1.toNatClampNeg + 1) st x1 x2 x3 = some r
set_option maxHeartbeats 4000000 in
set_option maxRecDepth 100000 in
theorem k_m_step_b25t {p : Program} {l : Launch} {e : Env} {s : State} {m : MethodId} {args : Array Value} {below : List Frame} {meth : Method} {c : Code} {A : Nat → Prop} (g : Gm) (C : cX p s m args meth c A cX11_step (some .int) 5 RX11 wq_X11_step (gD g) vwCl (mty g) (mz g)) (st : CS) (x1 : Int32) (x2 : Int32) (x3 : Int32) (H : Heap) (locs : List Loc) (ls : Array Slot) (hI : cI (gD g) vwCl (mw g) A s st H locs) (hl : lv_has ls 5 [(0, .ref (gad g 0)), (1, .int x1), (2, .int x2), (3, .int x3)]) (hO : o_m_step_b25t st x1 x2 x3) (X : CS × Int32) (hF : X = m_step_b25t st x1 x2 x3) : W p l e rm_m_step s m args below meth c H locs 0 0 (MQ below (cQi (gD g) vwCl (mty g) (mw g) A X.1 X.2) args s 0 0 A) (F0 m 25 ls []) := by
  refine k_m_step_b25 g C (x1.toNatClampNeg + 1) st x1 x2 x3 H locs ls hI hl hO.1 X ?_
  rw [hF]
  exact some_getD hO.2
def m_step (st : CS) (x1 : Int32) : CS × Int32 := (if ((m_within x1 (1 : Int32) (5000 : Int32)) = 0) then ((m_fail (sI st 0 (0 : Int32))).1, (m_fail (sI st 0 (0 : Int32))).2) else (m_step_b25t (sI st 0 (0 : Int32)) x1 (0 : Int32) (1 : Int32)))
def o_m_step (st : CS) (x1 : Int32) : Prop := ((((m_within x1 (1 : Int32) (5000 : Int32)) = 0) → True) ∧ (¬ ((m_within x1 (1 : Int32) (5000 : Int32)) = 0) → (o_m_step_b25t (sI st 0 (0 : Int32)) x1 (0 : Int32) (1 : Int32))))
set_option maxHeartbeats 4000000 in
set_option maxRecDepth 100000 in
theorem k_m_step {p : Program} {l : Launch} {e : Env} {s : State} {m : MethodId} {args : Array Value} {below : List Frame} {meth : Method} {c : Code} {A : Nat → Prop} (g : Gm) (C : cX p s m args meth c A cX11_step (some .int) 5 RX11 wq_X11_step (gD g) vwCl (mty g) (mz g)) (st : CS) (x1 : Int32) (H : Heap) (locs : List Loc) (ls : Array Slot) (hI : cI (gD g) vwCl (mw g) A s st H locs) (hl : lv_has ls 5 [(0, .ref (gad g 0)), (1, .int x1)]) (hO : o_m_step st x1) (X : CS × Int32) (hF : X = m_step st x1) : W p l e rm_m_step s m args below meth c H locs 0 0 (MQ below (cQi (gD g) vwCl (mty g) (mw g) A X.1 X.2) args s 0 0 A) (F0 m 0 ls []) := by
  obtain ⟨hx, hb, hr, hml, hown, hts, hlocks, hK, hA, hZ, hzo⟩ := id C
  unfold m_step at hF
  unfold o_m_step at hO
  refine lv_aload_n hx hb dX11_step_0 rfl (lv_at hl 0 rfl) ?_
  refine lv_iconst (v := (0 : Int32)) hx hb dX11_step_1 (by decide) ?_
  refine va_put (D := gD g) (ci := 11) (C := RX11) (T := TX11) (N := 50) (v := .int (0 : Int32)) (ty := .int) hx hb hts (fun w h => List.mem_cons_of_mem _ (isX110 w h)) tyX11 tyX11_ok nmX11 hown hK hI.1 hI.2.1 hI.2.2 0 rfl rfl 0 (by decide) (hts _ (List.mem_cons_of_mem _ mw208)) (fun _ h9 => h9) rfl (by decide +kernel) rfl rfl (Nat.le_of_ble_eq_true rfl) dX11_step_2 (fun H locs hP hD hS => ?_)
  have hI : cI (gD g) vwCl (mw g) A s (sI st 0 (0 : Int32)) H locs := ⟨hP, hD, hS⟩
  refine lv_iload_n hx hb dX11_step_5 rfl (lv_at hl 1 rfl) ?_
  refine lv_iconst (v := (1 : Int32)) hx hb dX11_step_6 (by decide) ?_
  refine lv_sipush (v := (5000 : Int32)) hx hb dX11_step_7 (by decide) ?_
  refine cx_Si (As := [.int x1, .int (1 : Int32), .int (5000 : Int32)]) (rest := []) C (c_m_within l g (sI st 0 (0 : Int32)) x1 (1 : Int32) (5000 : Int32)) (va_cwS 3 hts (gd_S _ mw238 mw239 mw3 mw240) rfl rfl rfl yd_yX11_within ⟨Nat.le_of_ble_eq_true rfl, Nat.le_of_ble_eq_true rfl⟩) hI rfl hl.1 rfl (Nat.le_of_ble_eq_true rfl) dX11_step_10 (fun H locs hI => ?_)
  refine lv_if_ne (tgt := 21) hx hb dX11_step_13 (by decide) (fun c_13 => ?_) (fun c_13 => ?_)
  · have hF := hF.trans (if_neg c_13)
    have hO := hO.2 c_13
    refine lv_iconst (v := (0 : Int32)) hx hb dX11_step_21 (by decide) ?_
    refine lv_istore_n (lv' := [(2, .int (0 : Int32)), (0, .ref (gad g 0)), (1, .int x1)]) hx hb dX11_step_22 rfl hl (by decide) rfl (fun ls hl => ?_)
    refine lv_iconst (v := (1 : Int32)) hx hb dX11_step_23 (by decide) ?_
    refine lv_istore_n (lv' := [(3, .int (1 : Int32)), (2, .int (0 : Int32)), (0, .ref (gad g 0)), (1, .int x1)]) hx hb dX11_step_24 rfl hl (by decide) rfl (fun ls hl => ?_)
    exact k_m_step_b25t g C (sI st 0 (0 : Int32)) x1 (0 : Int32) (1 : Int32) H locs ls hI (lv_sub hl [2, 3, 1, 0] rfl) hO X hF
  · have hF := hF.trans (if_pos c_13)
    have hO := hO.1 c_13
    refine lv_aload_n hx hb dX11_step_16 rfl (lv_at hl 0 rfl) ?_
    refine cx_Vi (As := []) (rest := []) C (c_m_fail l g (sI st 0 (0 : Int32)) ) (cwV 0 hts (gd_V _ mw249 mw250 mw251 mw3 mw252) rfl rfl rfl yd_yX11_fail ⟨Nat.le_of_ble_eq_true rfl, Nat.le_of_ble_eq_true rfl⟩) (va_recv hK hI.1 (ci := 11) (q0 := 0) rfl rfl) hI rfl hl.1 rfl (Nat.le_of_ble_eq_true rfl) dX11_step_17 (fun H locs hI => ?_)
    exact cx_iret C hI (congrArg Prod.fst hF) (congrArg Prod.snd hF) dX11_step_20
set_option maxHeartbeats 4000000 in
set_option maxRecDepth 100000 in
theorem c_m_step (l : Launch) (g : Gm) (st : CS) (x1 : Int32) (hO : o_m_step st x1) : Mi l yX11_step wq_X11_step rm_m_step (gD g) vwCl (mty g) (mw g) (mz g) [.ref (gad g 0), .int x1] st (m_step st x1).1 (m_step st x1).2 := by
  intro sz
  refine Met.ofW (cc := cX11_step) (maxL := 5) (ret := (some .int)) (by decide) rfl ?_
  intro p e s m args below meth c s₁ B hml hv
  obtain ⟨rfl, hsz, hP, hK, hD0, hZ⟩ := hv
  subst hsz
  have hl := lv_entry ([.ref (gad g 0), .int x1]) (n := 5) (Nat.le_of_ble_eq_true rfl)
  rw [lg_entry_eq]
  generalize (lg_sl ([.ref (gad g 0), .int x1]) ++ List.replicate (5 - (lg_sl ([.ref (gad g 0), .int x1])).length) Slot.unset).toArray = ls at hl ⊢
  exact k_m_step g ⟨B.exec, B.bytes, B.returns, hml, findClass_of_methodNamed B.named, atoms_spec (ws := wq_X11_step) B.pre, B.notSynchronized, hK, fun q h => Or.inr h, hZ, mz_ok g⟩ st x1 _ _ ls ⟨hP, hD0.self, va_S.rf⟩ hl hO _ rfl
abbrev wq_X11_run : List Cond := .code yX11_run cX11_run 5 (some .int) :: wAll
theorem yd_yX11_run : yX11_run.cls = RX11 ∧ yX11_run.cls ≠ "java/lang/invoke/MethodHandle" ∧ yX11_run.cls ≠ "java/lang/invoke/VarHandle" ∧ (parseMethodDescriptor yX11_run.desc).map (fun d => d.parameters.length) = some 1 := by decide +kernel
abbrev rm_m_run : Room := { frames := 8, cells := 0, slots := 0, locals := 196 }
def m_run_b60 (rec : CS → Int32 → Int32 → Int32 → Int32 → Option (CS × Int32)) (st : CS) (x1 : Int32) (x2 : Int32) (x3 : Int32) (y0 : Int32) : Option (CS × Int32) := (rec st x1 x2 x3 y0)
def o_m_run_b60 (orec : CS → Int32 → Int32 → Int32 → Int32 → Prop) (st : CS) (x1 : Int32) (x2 : Int32) (x3 : Int32) (y0 : Int32) : Prop := (orec st x1 x2 x3 y0)
set_option maxHeartbeats 4000000 in
set_option maxRecDepth 100000 in
theorem k_m_run_b60 {p : Program} {l : Launch} {e : Env} {s : State} {m : MethodId} {args : Array Value} {below : List Frame} {meth : Method} {c : Code} {A : Nat → Prop} (g : Gm) (C : cX p s m args meth c A cX11_run (some .int) 5 RX11 wq_X11_run (gD g) vwCl (mty g) (mz g)) (rec : CS → Int32 → Int32 → Int32 → Int32 → Option (CS × Int32)) (orec : CS → Int32 → Int32 → Int32 → Int32 → Prop) (hrec : ∀ (st : CS) (x1 : Int32) (x2 : Int32) (x3 : Int32) (x4 : Int32) (H : Heap) (locs : List Loc) (ls : Array Slot), cI (gD g) vwCl (mw g) A s st H locs → lv_has ls 5 [(0, .ref (gad g 0)), (1, .int x1), (2, .int x2), (3, .int x3), (4, .int x4)] → orec st x1 x2 x3 x4 → ∀ (X : CS × Int32), some X = rec st x1 x2 x3 x4 → W p l e rm_m_run s m args below meth c H locs 0 0 (MQ below (cQi (gD g) vwCl (mty g) (mw g) A X.1 X.2) args s 0 0 A) (F0 m 28 ls [])) (st : CS) (x1 : Int32) (x2 : Int32) (x3 : Int32) (y0 : Int32) (H : Heap) (locs : List Loc) (ls : Array Slot) (hI : cI (gD g) vwCl (mw g) A s st H locs) (hl : lv_has ls 5 [(0, .ref (gad g 0)), (1, .int x1), (2, .int x2), (3, .int x3)]) (hO : o_m_run_b60 orec st x1 x2 x3 y0) (X : CS × Int32) (hF : some X = m_run_b60 rec st x1 x2 x3 y0) : W p l e rm_m_run s m args below meth c H locs 0 0 (MQ below (cQi (gD g) vwCl (mty g) (mw g) A X.1 X.2) args s 0 0 A) (F0 m 60 ls [.int y0]) := by
  obtain ⟨hx, hb, hr, hml, hown, hts, hlocks, hK, hA, hZ, hzo⟩ := id C
  unfold m_run_b60 at hF
  unfold o_m_run_b60 at hO
  refine lv_istore (lv' := [(4, .int y0), (0, .ref (gad g 0)), (1, .int x1), (2, .int x2), (3, .int x3)]) hx hb dX11_run_60 hl (by decide) rfl (fun ls hl => ?_)
  refine lv_goto (tgt := 28) hx hb dX11_run_62 (by decide) ?_
  exact hrec st x1 x2 x3 y0 H locs ls hI (lv_sub hl [1, 2, 3, 4, 0] rfl) hO X hF
def m_run_b59 (rec : CS → Int32 → Int32 → Int32 → Int32 → Option (CS × Int32)) (st : CS) (x1 : Int32) (x2 : Int32) (x3 : Int32) : Option (CS × Int32) := (m_run_b60 rec st x1 x2 x3 (0 : Int32))
def o_m_run_b59 (orec : CS → Int32 → Int32 → Int32 → Int32 → Prop) (st : CS) (x1 : Int32) (x2 : Int32) (x3 : Int32) : Prop := (o_m_run_b60 orec st x1 x2 x3 (0 : Int32))
set_option maxHeartbeats 4000000 in
set_option maxRecDepth 100000 in
theorem k_m_run_b59 {p : Program} {l : Launch} {e : Env} {s : State} {m : MethodId} {args : Array Value} {below : List Frame} {meth : Method} {c : Code} {A : Nat → Prop} (g : Gm) (C : cX p s m args meth c A cX11_run (some .int) 5 RX11 wq_X11_run (gD g) vwCl (mty g) (mz g)) (rec : CS → Int32 → Int32 → Int32 → Int32 → Option (CS × Int32)) (orec : CS → Int32 → Int32 → Int32 → Int32 → Prop) (hrec : ∀ (st : CS) (x1 : Int32) (x2 : Int32) (x3 : Int32) (x4 : Int32) (H : Heap) (locs : List Loc) (ls : Array Slot), cI (gD g) vwCl (mw g) A s st H locs → lv_has ls 5 [(0, .ref (gad g 0)), (1, .int x1), (2, .int x2), (3, .int x3), (4, .int x4)] → orec st x1 x2 x3 x4 → ∀ (X : CS × Int32), some X = rec st x1 x2 x3 x4 → W p l e rm_m_run s m args below meth c H locs 0 0 (MQ below (cQi (gD g) vwCl (mty g) (mw g) A X.1 X.2) args s 0 0 A) (F0 m 28 ls [])) (st : CS) (x1 : Int32) (x2 : Int32) (x3 : Int32) (H : Heap) (locs : List Loc) (ls : Array Slot) (hI : cI (gD g) vwCl (mw g) A s st H locs) (hl : lv_has ls 5 [(0, .ref (gad g 0)), (1, .int x1), (2, .int x2), (3, .int x3)]) (hO : o_m_run_b59 orec st x1 x2 x3) (X : CS × Int32) (hF : some X = m_run_b59 rec st x1 x2 x3) : W p l e rm_m_run s m args below meth c H locs 0 0 (MQ below (cQi (gD g) vwCl (mty g) (mw g) A X.1 X.2) args s 0 0 A) (F0 m 59 ls []) := by
  obtain ⟨hx, hb, hr, hml, hown, hts, hlocks, hK, hA, hZ, hzo⟩ := id C
  unfold m_run_b59 at hF
  unfold o_m_run_b59 at hO
  refine lv_iconst (v := (0 : Int32)) hx hb dX11_run_59 (by decide) ?_
  exact k_m_run_b60 g C rec orec hrec st x1 x2 x3 (0 : Int32) H locs ls hI (lv_sub hl [0, 1, 2, 3] rfl) hO X hF
def m_run_b38 (rec : CS → Int32 → Int32 → Int32 → Int32 → Option (CS × Int32)) (st : CS) (x1 : Int32) (x2 : Int32) (y1 : Int32) (y0 : Int32) : Option (CS × Int32) := (if (x1 ≤ (y1 + y0)) then (m_run_b59 rec st x1 (x2 + (1 : Int32)) (y1 + y0)) else (if ((m_stops st) = 0) then (m_run_b60 rec st x1 (x2 + (1 : Int32)) (y1 + y0) (1 : Int32)) else (m_run_b59 rec st x1 (x2 + (1 : Int32)) (y1 + y0))))
def o_m_run_b38 (orec : CS → Int32 → Int32 → Int32 → Int32 → Prop) (st : CS) (x1 : Int32) (x2 : Int32) (y1 : Int32) (y0 : Int32) : Prop := (((x1 ≤ (y1 + y0)) → (o_m_run_b59 orec st x1 (x2 + (1 : Int32)) (y1 + y0))) ∧ (¬ (x1 ≤ (y1 + y0)) → ((((m_stops st) = 0) → (o_m_run_b60 orec st x1 (x2 + (1 : Int32)) (y1 + y0) (1 : Int32))) ∧ (¬ ((m_stops st) = 0) → (o_m_run_b59 orec st x1 (x2 + (1 : Int32)) (y1 + y0))))))
set_option maxHeartbeats 4000000 in
set_option maxRecDepth 100000 in
theorem k_m_run_b38 {p : Program} {l : Launch} {e : Env} {s : State} {m : MethodId} {args : Array Value} {below : List Frame} {meth : Method} {c : Code} {A : Nat → Prop} (g : Gm) (C : cX p s m args meth c A cX11_run (some .int) 5 RX11 wq_X11_run (gD g) vwCl (mty g) (mz g)) (rec : CS → Int32 → Int32 → Int32 → Int32 → Option (CS × Int32)) (orec : CS → Int32 → Int32 → Int32 → Int32 → Prop) (hrec : ∀ (st : CS) (x1 : Int32) (x2 : Int32) (x3 : Int32) (x4 : Int32) (H : Heap) (locs : List Loc) (ls : Array Slot), cI (gD g) vwCl (mw g) A s st H locs → lv_has ls 5 [(0, .ref (gad g 0)), (1, .int x1), (2, .int x2), (3, .int x3), (4, .int x4)] → orec st x1 x2 x3 x4 → ∀ (X : CS × Int32), some X = rec st x1 x2 x3 x4 → W p l e rm_m_run s m args below meth c H locs 0 0 (MQ below (cQi (gD g) vwCl (mty g) (mw g) A X.1 X.2) args s 0 0 A) (F0 m 28 ls [])) (st : CS) (x1 : Int32) (x2 : Int32) (y1 : Int32) (y0 : Int32) (H : Heap) (locs : List Loc) (ls : Array Slot) (hI : cI (gD g) vwCl (mw g) A s st H locs) (hl : lv_has ls 5 [(0, .ref (gad g 0)), (1, .int x1), (2, .int x2)]) (hO : o_m_run_b38 orec st x1 x2 y1 y0) (X : CS × Int32) (hF : some X = m_run_b38 rec st x1 x2 y1 y0) : W p l e rm_m_run s m args below meth c H locs 0 0 (MQ below (cQi (gD g) vwCl (mty g) (mw g) A X.1 X.2) args s 0 0 A) (F0 m 38 ls [.int y0, .int y1]) := by
  obtain ⟨hx, hb, hr, hml, hown, hts, hlocks, hK, hA, hZ, hzo⟩ := id C
  unfold m_run_b38 at hF
  unfold o_m_run_b38 at hO
  refine lv_iadd hx hb dX11_run_38 ?_
  refine lv_istore_n (lv' := [(3, .int (y1 + y0)), (0, .ref (gad g 0)), (1, .int x1), (2, .int x2)]) hx hb dX11_run_39 rfl hl (by decide) rfl (fun ls hl => ?_)
  refine lv_iinc (v := (x2 + (1 : Int32))) (lv' := [(2, .int (x2 + (1 : Int32))), (3, .int (y1 + y0)), (0, .ref (gad g 0)), (1, .int x1)]) hx hb dX11_run_40 hl (k := 3) rfl rfl (by decide) rfl (fun ls hl => ?_)
  refine lv_iload_n hx hb dX11_run_43 rfl (lv_at hl 1 rfl) ?_
  refine lv_iload_n hx hb dX11_run_44 rfl (lv_at hl 3 rfl) ?_
  refine lv_icmp_ge (tgt := 59) hx hb dX11_run_45 (by decide) (fun c_45 => ?_) (fun c_45 => ?_)
  · have hF := hF.trans (if_pos c_45)
    have hO := hO.1 c_45
    exact k_m_run_b59 g C rec orec hrec st x1 (x2 + (1 : Int32)) (y1 + y0) H locs ls hI (lv_sub hl [2, 3, 0, 1] rfl) hO X hF
  · have hF := hF.trans (if_neg c_45)
    have hO := hO.2 c_45
    refine lv_aload_n hx hb dX11_run_48 rfl (lv_at hl 2 rfl) ?_
    refine cx_Vi (As := []) (rest := []) C (c_m_stops l g st ) (cwV 0 hts (gd_V _ mw939 mw940 mw941 mw3 mw942) rfl rfl rfl yd_yX11_stops ⟨Nat.le_of_ble_eq_true rfl, Nat.le_of_ble_eq_true rfl⟩) (va_recv hK hI.1 (ci := 11) (q0 := 0) rfl rfl) hI rfl hl.1 rfl (Nat.le_of_ble_eq_true rfl) dX11_run_49 (fun H locs hI => ?_)
    refine lv_if_ne (tgt := 59) hx hb dX11_run_52 (by decide) (fun c_52 => ?_) (fun c_52 => ?_)
    · have hF := hF.trans (if_neg c_52)
      have hO := hO.2 c_52
      exact k_m_run_b59 g C rec orec hrec st x1 (x2 + (1 : Int32)) (y1 + y0) H locs ls hI (lv_sub hl [2, 3, 0, 1] rfl) hO X hF
    · have hF := hF.trans (if_pos c_52)
      have hO := hO.1 c_52
      refine lv_iconst (v := (1 : Int32)) hx hb dX11_run_55 (by decide) ?_
      refine lv_goto (tgt := 60) hx hb dX11_run_56 (by decide) ?_
      exact k_m_run_b60 g C rec orec hrec st x1 (x2 + (1 : Int32)) (y1 + y0) (1 : Int32) H locs ls hI (lv_sub hl [2, 3, 0, 1] rfl) hO X hF
def m_run_b28 : Nat → CS → Int32 → Int32 → Int32 → Int32 → Option (CS × Int32)
  | 0, _, _, _, _, _ => none
  | n + 1, st, x1, x2, x3, x4 => (if (x4 = 0) then (some (st, x2)) else (m_run_b38 (m_run_b28 n) (m_whole st).1 x1 x2 x3 (m_whole st).2))
def o_m_run_b28 : Nat → CS → Int32 → Int32 → Int32 → Int32 → Prop
  | 0, _, _, _, _, _ => True
  | n + 1, st, x1, x2, x3, x4 => (((x4 = 0) → True) ∧ (¬ (x4 = 0) → ((o_m_whole st) ∧ (o_m_run_b38 (o_m_run_b28 n) (m_whole st).1 x1 x2 x3 (m_whole st).2))))
set_option maxHeartbeats 4000000 in
set_option maxRecDepth 100000 in
theorem k_m_run_b28 {p : Program} {l : Launch} {e : Env} {s : State} {m : MethodId} {args : Array Value} {below : List Frame} {meth : Method} {c : Code} {A : Nat → Prop} (g : Gm) (C : cX p s m args meth c A cX11_run (some .int) 5 RX11 wq_X11_run (gD g) vwCl (mty g) (mz g)) : ∀ (n : Nat) (st : CS) (x1 : Int32) (x2 : Int32) (x3 : Int32) (x4 : Int32) (H : Heap) (locs : List Loc) (ls : Array Slot), cI (gD g) vwCl (mw g) A s st H locs → lv_has ls 5 [(0, .ref (gad g 0)), (1, .int x1), (2, .int x2), (3, .int x3), (4, .int x4)] → o_m_run_b28 n st x1 x2 x3 x4 → ∀ (X : CS × Int32), some X = m_run_b28 n st x1 x2 x3 x4 → W p l e rm_m_run s m args below meth c H locs 0 0 (MQ below (cQi (gD g) vwCl (mty g) (mw g) A X.1 X.2) args s 0 0 A) (F0 m 28 ls []) := by
  obtain ⟨hx, hb, hr, hml, hown, hts, hlocks, hK, hA, hZ, hzo⟩ := id C
  intro n
  induction n with
  | zero => intro st x1 x2 x3 x4 H locs ls hI hl hO X hF; exact absurd hF (by simp [m_run_b28])
  | succ n ih =>
    intro st x1 x2 x3 x4 H locs ls hI hl hO X hF
    rw [m_run_b28] at hF
    rw [o_m_run_b28] at hO
    refine lv_iload hx hb dX11_run_28 (lv_at hl 4 rfl) ?_
    refine lv_if_eq (tgt := 65) hx hb dX11_run_30 (by decide) (fun c_30 => ?_) (fun c_30 => ?_)
    · have hF := hF.trans (if_pos c_30)
      have hO := hO.1 c_30
      refine lv_iload_n hx hb dX11_run_65 rfl (lv_at hl 2 rfl) ?_
      have hF := Option.some.inj hF
      exact cx_iret C hI (congrArg Prod.fst hF) (congrArg Prod.snd hF) dX11_run_66
    · have hF := hF.trans (if_neg c_30)
      have hO := hO.2 c_30
      refine lv_iload_n hx hb dX11_run_33 rfl (lv_at hl 3 rfl) ?_
      refine lv_aload_n hx hb dX11_run_34 rfl (lv_at hl 0 rfl) ?_
      have hq_35_0 := hO.1
      have hO := hO.2
      refine cx_Vi (As := []) (rest := [.int x3]) C (c_m_whole l g st  hq_35_0) (cwV 0 hts (gd_V _ mw739 mw740 mw741 mw3 mw742) rfl rfl rfl yd_yX11_whole ⟨Nat.le_of_ble_eq_true rfl, Nat.le_of_ble_eq_true rfl⟩) (va_recv hK hI.1 (ci := 11) (q0 := 0) rfl rfl) hI rfl hl.1 rfl (Nat.le_of_ble_eq_true rfl) dX11_run_35 (fun H locs hI => ?_)
      exact k_m_run_b38 g C (m_run_b28 n) (o_m_run_b28 n) ih (m_whole st).1 x1 x2 x3 (m_whole st).2 H locs ls hI (lv_sub hl [0, 1, 2] rfl) hO X hF
def m_run_b28t (st : CS) (x1 : Int32) (x2 : Int32) (x3 : Int32) (x4 : Int32) : CS × Int32 := (m_run_b28 (x1.toNatClampNeg + 1) st x1 x2 x3 x4).getD (st, 0)
def o_m_run_b28t (st : CS) (x1 : Int32) (x2 : Int32) (x3 : Int32) (x4 : Int32) : Prop := o_m_run_b28 (x1.toNatClampNeg + 1) st x1 x2 x3 x4 ∧ ∃ r, m_run_b28 (x1.toNatClampNeg + 1) st x1 x2 x3 x4 = some r
set_option maxHeartbeats 4000000 in
set_option maxRecDepth 100000 in
theorem k_m_run_b28t {p : Program} {l : Launch} {e : Env} {s : State} {m : MethodId} {args : Array Value} {below : List Frame} {meth : Method} {c : Code} {A : Nat → Prop} (g : Gm) (C : cX p s m args meth c A cX11_run (some .int) 5 RX11 wq_X11_run (gD g) vwCl (mty g) (mz g)) (st : CS) (x1 : Int32) (x2 : Int32) (x3 : Int32) (x4 : Int32) (H : Heap) (locs : List Loc) (ls : Array Slot) (hI : cI (gD g) vwCl (mw g) A s st H locs) (hl : lv_has ls 5 [(0, .ref (gad g 0)), (1, .int x1), (2, .int x2), (3, .int x3), (4, .int x4)]) (hO : o_m_run_b28t st x1 x2 x3 x4) (X : CS × Int32) (hF : X = m_run_b28t st x1 x2 x3 x4) : W p l e rm_m_run s m args below meth c H locs 0 0 (MQ below (cQi (gD g) vwCl (mty g) (mw g) A X.1 X.2) args s 0 0 A) (F0 m 28 ls []) := by
  refine k_m_run_b28 g C (x1.toNatClampNeg + 1) st x1 x2 x3 x4 H locs ls hI hl hO.1 X ?_
  rw [hF]
  exact some_getD hO.2
def m_run (st : CS) (x1 : Int32) : CS × Int32 := (if ((m_within x1 (1 : Int32) (20000 : Int32)) = 0) then ((m_fail (sI st 0 (0 : Int32))).1, (m_fail (sI st 0 (0 : Int32))).2) else (m_run_b28t (sI st 0 (0 : Int32)) x1 (0 : Int32) (0 : Int32) (1 : Int32)))
def o_m_run (st : CS) (x1 : Int32) : Prop := ((((m_within x1 (1 : Int32) (20000 : Int32)) = 0) → True) ∧ (¬ ((m_within x1 (1 : Int32) (20000 : Int32)) = 0) → (o_m_run_b28t (sI st 0 (0 : Int32)) x1 (0 : Int32) (0 : Int32) (1 : Int32))))
set_option maxHeartbeats 4000000 in
set_option maxRecDepth 100000 in
theorem k_m_run {p : Program} {l : Launch} {e : Env} {s : State} {m : MethodId} {args : Array Value} {below : List Frame} {meth : Method} {c : Code} {A : Nat → Prop} (g : Gm) (C : cX p s m args meth c A cX11_run (some .int) 5 RX11 wq_X11_run (gD g) vwCl (mty g) (mz g)) (st : CS) (x1 : Int32) (H : Heap) (locs : List Loc) (ls : Array Slot) (hI : cI (gD g) vwCl (mw g) A s st H locs) (hl : lv_has ls 5 [(0, .ref (gad g 0)), (1, .int x1)]) (hO : o_m_run st x1) (X : CS × Int32) (hF : X = m_run st x1) : W p l e rm_m_run s m args below meth c H locs 0 0 (MQ below (cQi (gD g) vwCl (mty g) (mw g) A X.1 X.2) args s 0 0 A) (F0 m 0 ls []) := by
  obtain ⟨hx, hb, hr, hml, hown, hts, hlocks, hK, hA, hZ, hzo⟩ := id C
  unfold m_run at hF
  unfold o_m_run at hO
  refine lv_aload_n hx hb dX11_run_0 rfl (lv_at hl 0 rfl) ?_
  refine lv_iconst (v := (0 : Int32)) hx hb dX11_run_1 (by decide) ?_
  refine va_put (D := gD g) (ci := 11) (C := RX11) (T := TX11) (N := 50) (v := .int (0 : Int32)) (ty := .int) hx hb hts (fun w h => List.mem_cons_of_mem _ (isX110 w h)) tyX11 tyX11_ok nmX11 hown hK hI.1 hI.2.1 hI.2.2 0 rfl rfl 0 (by decide) (hts _ (List.mem_cons_of_mem _ mw208)) (fun _ h9 => h9) rfl (by decide +kernel) rfl rfl (Nat.le_of_ble_eq_true rfl) dX11_run_2 (fun H locs hP hD hS => ?_)
  have hI : cI (gD g) vwCl (mw g) A s (sI st 0 (0 : Int32)) H locs := ⟨hP, hD, hS⟩
  refine lv_iload_n hx hb dX11_run_5 rfl (lv_at hl 1 rfl) ?_
  refine lv_iconst (v := (1 : Int32)) hx hb dX11_run_6 (by decide) ?_
  refine lv_sipush (v := (20000 : Int32)) hx hb dX11_run_7 (by decide) ?_
  refine cx_Si (As := [.int x1, .int (1 : Int32), .int (20000 : Int32)]) (rest := []) C (c_m_within l g (sI st 0 (0 : Int32)) x1 (1 : Int32) (20000 : Int32)) (va_cwS 3 hts (gd_S _ mw238 mw239 mw3 mw240) rfl rfl rfl yd_yX11_within ⟨Nat.le_of_ble_eq_true rfl, Nat.le_of_ble_eq_true rfl⟩) hI rfl hl.1 rfl (Nat.le_of_ble_eq_true rfl) dX11_run_10 (fun H locs hI => ?_)
  refine lv_if_ne (tgt := 21) hx hb dX11_run_13 (by decide) (fun c_13 => ?_) (fun c_13 => ?_)
  · have hF := hF.trans (if_neg c_13)
    have hO := hO.2 c_13
    refine lv_iconst (v := (0 : Int32)) hx hb dX11_run_21 (by decide) ?_
    refine lv_istore_n (lv' := [(2, .int (0 : Int32)), (0, .ref (gad g 0)), (1, .int x1)]) hx hb dX11_run_22 rfl hl (by decide) rfl (fun ls hl => ?_)
    refine lv_iconst (v := (0 : Int32)) hx hb dX11_run_23 (by decide) ?_
    refine lv_istore_n (lv' := [(3, .int (0 : Int32)), (2, .int (0 : Int32)), (0, .ref (gad g 0)), (1, .int x1)]) hx hb dX11_run_24 rfl hl (by decide) rfl (fun ls hl => ?_)
    refine lv_iconst (v := (1 : Int32)) hx hb dX11_run_25 (by decide) ?_
    refine lv_istore (lv' := [(4, .int (1 : Int32)), (3, .int (0 : Int32)), (2, .int (0 : Int32)), (0, .ref (gad g 0)), (1, .int x1)]) hx hb dX11_run_26 hl (by decide) rfl (fun ls hl => ?_)
    exact k_m_run_b28t g C (sI st 0 (0 : Int32)) x1 (0 : Int32) (0 : Int32) (1 : Int32) H locs ls hI (lv_sub hl [3, 4, 2, 1, 0] rfl) hO X hF
  · have hF := hF.trans (if_pos c_13)
    have hO := hO.1 c_13
    refine lv_aload_n hx hb dX11_run_16 rfl (lv_at hl 0 rfl) ?_
    refine cx_Vi (As := []) (rest := []) C (c_m_fail l g (sI st 0 (0 : Int32)) ) (cwV 0 hts (gd_V _ mw249 mw250 mw251 mw3 mw252) rfl rfl rfl yd_yX11_fail ⟨Nat.le_of_ble_eq_true rfl, Nat.le_of_ble_eq_true rfl⟩) (va_recv hK hI.1 (ci := 11) (q0 := 0) rfl rfl) hI rfl hl.1 rfl (Nat.le_of_ble_eq_true rfl) dX11_run_17 (fun H locs hI => ?_)
    exact cx_iret C hI (congrArg Prod.fst hF) (congrArg Prod.snd hF) dX11_run_20
set_option maxHeartbeats 4000000 in
set_option maxRecDepth 100000 in
theorem c_m_run (l : Launch) (g : Gm) (st : CS) (x1 : Int32) (hO : o_m_run st x1) : Mi l yX11_run wq_X11_run rm_m_run (gD g) vwCl (mty g) (mw g) (mz g) [.ref (gad g 0), .int x1] st (m_run st x1).1 (m_run st x1).2 := by
  intro sz
  refine Met.ofW (cc := cX11_run) (maxL := 5) (ret := (some .int)) (by decide) rfl ?_
  intro p e s m args below meth c s₁ B hml hv
  obtain ⟨rfl, hsz, hP, hK, hD0, hZ⟩ := hv
  subst hsz
  have hl := lv_entry ([.ref (gad g 0), .int x1]) (n := 5) (Nat.le_of_ble_eq_true rfl)
  rw [lg_entry_eq]
  generalize (lg_sl ([.ref (gad g 0), .int x1]) ++ List.replicate (5 - (lg_sl ([.ref (gad g 0), .int x1])).length) Slot.unset).toArray = ls at hl ⊢
  exact k_m_run g ⟨B.exec, B.bytes, B.returns, hml, findClass_of_methodNamed B.named, atoms_spec (ws := wq_X11_run) B.pre, B.notSynchronized, hK, fun q h => Or.inr h, hZ, mz_ok g⟩ st x1 _ _ ls ⟨hP, hD0.self, va_S.rf⟩ hl hO _ rfl
abbrev wq_X11_stopAt : List Cond := .code yX11_stopAt cX11_stopAt 2 (some .boolean) :: wAll
theorem yd_yX11_stopAt : yX11_stopAt.cls = RX11 ∧ yX11_stopAt.cls ≠ "java/lang/invoke/MethodHandle" ∧ yX11_stopAt.cls ≠ "java/lang/invoke/VarHandle" ∧ (parseMethodDescriptor yX11_stopAt.desc).map (fun d => d.parameters.length) = some 1 := by decide +kernel
abbrev rm_m_stopAt : Room := { frames := 0, cells := 0, slots := 0, locals := 0 }
def m_stopAt_b33 (st : CS) (y0 : Int32) : CS × Int32 := ((sI st 24 y0), (1 : Int32))
set_option maxHeartbeats 4000000 in
set_option maxRecDepth 100000 in
theorem k_m_stopAt_b33 {p : Program} {l : Launch} {e : Env} {s : State} {m : MethodId} {args : Array Value} {below : List Frame} {meth : Method} {c : Code} {A : Nat → Prop} (g : Gm) (C : cX p s m args meth c A cX11_stopAt (some .boolean) 2 RX11 wq_X11_stopAt (gD g) vwCl (mty g) (mz g)) (st : CS) (y0 : Int32) (H : Heap) (locs : List Loc) (ls : Array Slot) (hI : cI (gD g) vwCl (mw g) A s st H locs) (hl : lv_has ls 2 [(0, .ref (gad g 0))]) (X : CS × Int32) (hF : X = m_stopAt_b33 st y0) : W p l e rm_m_stopAt s m args below meth c H locs 0 0 (MQ below (cQi (gD g) vwCl (mty g) (mw g) A X.1 X.2) args s 0 0 A) (F0 m 33 ls [.int y0, .ref (gad g 0)]) := by
  obtain ⟨hx, hb, hr, hml, hown, hts, hlocks, hK, hA, hZ, hzo⟩ := id C
  unfold m_stopAt_b33 at hF
  refine va_put (D := gD g) (ci := 11) (C := RX11) (T := TX11) (N := 50) (v := .int y0) (ty := .int) hx hb hts (fun w h => List.mem_cons_of_mem _ (isX110 w h)) tyX11 tyX11_ok nmX11 hown hK hI.1 hI.2.1 hI.2.2 0 rfl rfl 43 (by decide) (hts _ (List.mem_cons_of_mem _ mw202)) (fun _ h9 => h9) rfl (by decide +kernel) rfl rfl (Nat.le_of_ble_eq_true rfl) dX11_stopAt_33 (fun H locs hP hD hS => ?_)
  have hI : cI (gD g) vwCl (mw g) A s (sI st 24 y0) H locs := ⟨hP, hD, hS⟩
  refine lv_iconst (v := (1 : Int32)) hx hb dX11_stopAt_36 (by decide) ?_
  exact cx_zret C hI (congrArg Prod.fst hF) (congrArg Prod.snd hF) rfl dX11_stopAt_37
def m_stopAt (st : CS) (x1 : Int32) : CS × Int32 := (if (x1 < (-1 : Int32)) then ((sI st 0 (0 : Int32)), (0 : Int32)) else (if (x1 < (67108864 : Int32)) then (if (x1 = (-1 : Int32)) then (m_stopAt_b33 (sI st 0 (0 : Int32)) (-1 : Int32)) else (m_stopAt_b33 (sI st 0 (0 : Int32)) (x1 &&& (67108860 : Int32)))) else ((sI st 0 (0 : Int32)), (0 : Int32))))
set_option maxHeartbeats 4000000 in
set_option maxRecDepth 100000 in
theorem k_m_stopAt {p : Program} {l : Launch} {e : Env} {s : State} {m : MethodId} {args : Array Value} {below : List Frame} {meth : Method} {c : Code} {A : Nat → Prop} (g : Gm) (C : cX p s m args meth c A cX11_stopAt (some .boolean) 2 RX11 wq_X11_stopAt (gD g) vwCl (mty g) (mz g)) (st : CS) (x1 : Int32) (H : Heap) (locs : List Loc) (ls : Array Slot) (hI : cI (gD g) vwCl (mw g) A s st H locs) (hl : lv_has ls 2 [(0, .ref (gad g 0)), (1, .int x1)]) (X : CS × Int32) (hF : X = m_stopAt st x1) : W p l e rm_m_stopAt s m args below meth c H locs 0 0 (MQ below (cQi (gD g) vwCl (mty g) (mw g) A X.1 X.2) args s 0 0 A) (F0 m 0 ls []) := by
  obtain ⟨hx, hb, hr, hml, hown, hts, hlocks, hK, hA, hZ, hzo⟩ := id C
  unfold m_stopAt at hF
  refine lv_aload_n hx hb dX11_stopAt_0 rfl (lv_at hl 0 rfl) ?_
  refine lv_iconst (v := (0 : Int32)) hx hb dX11_stopAt_1 (by decide) ?_
  refine va_put (D := gD g) (ci := 11) (C := RX11) (T := TX11) (N := 50) (v := .int (0 : Int32)) (ty := .int) hx hb hts (fun w h => List.mem_cons_of_mem _ (isX110 w h)) tyX11 tyX11_ok nmX11 hown hK hI.1 hI.2.1 hI.2.2 0 rfl rfl 0 (by decide) (hts _ (List.mem_cons_of_mem _ mw208)) (fun _ h9 => h9) rfl (by decide +kernel) rfl rfl (Nat.le_of_ble_eq_true rfl) dX11_stopAt_2 (fun H locs hP hD hS => ?_)
  have hI : cI (gD g) vwCl (mw g) A s (sI st 0 (0 : Int32)) H locs := ⟨hP, hD, hS⟩
  refine lv_iload_n hx hb dX11_stopAt_5 rfl (lv_at hl 1 rfl) ?_
  refine lv_iconst (v := (-1 : Int32)) hx hb dX11_stopAt_6 (by decide) ?_
  refine lv_icmp_lt (tgt := 17) hx hb dX11_stopAt_7 (by decide) (fun c_7 => ?_) (fun c_7 => ?_)
  · have hF := hF.trans (if_pos c_7)
    refine lv_iconst (v := (0 : Int32)) hx hb dX11_stopAt_17 (by decide) ?_
    exact cx_zret C hI (congrArg Prod.fst hF) (congrArg Prod.snd hF) rfl dX11_stopAt_18
  · have hF := hF.trans (if_neg c_7)
    refine lv_iload_n hx hb dX11_stopAt_10 rfl (lv_at hl 1 rfl) ?_
    refine lv_ldcw (v := (67108864 : Int32)) hx hb hown (hts _ (List.mem_cons_of_mem _ mw957)) dX11_stopAt_11 ?_
    refine lv_icmp_lt (tgt := 19) hx hb dX11_stopAt_14 (by decide) (fun c_14 => ?_) (fun c_14 => ?_)
    · have hF := hF.trans (if_pos c_14)
      refine lv_aload_n hx hb dX11_stopAt_19 rfl (lv_at hl 0 rfl) ?_
      refine lv_iload_n hx hb dX11_stopAt_20 rfl (lv_at hl 1 rfl) ?_
      refine lv_iconst (v := (-1 : Int32)) hx hb dX11_stopAt_21 (by decide) ?_
      refine lv_icmp_ne (tgt := 29) hx hb dX11_stopAt_22 (by decide) (fun c_22 => ?_) (fun c_22 => ?_)
      · have hF := hF.trans (if_neg c_22)
        refine lv_iload_n hx hb dX11_stopAt_29 rfl (lv_at hl 1 rfl) ?_
        refine lv_ldc (v := (67108860 : Int32)) hx hb hown (hts _ (List.mem_cons_of_mem _ mw748)) dX11_stopAt_30 ?_
        refine lv_iand hx hb dX11_stopAt_32 ?_
        exact k_m_stopAt_b33 g C (sI st 0 (0 : Int32)) (x1 &&& (67108860 : Int32)) H locs ls hI (lv_sub hl [0] rfl) X hF
      · have hF := hF.trans (if_pos c_22)
        refine lv_iconst (v := (-1 : Int32)) hx hb dX11_stopAt_25 (by decide) ?_
        refine lv_goto (tgt := 33) hx hb dX11_stopAt_26 (by decide) ?_
        exact k_m_stopAt_b33 g C (sI st 0 (0 : Int32)) (-1 : Int32) H locs ls hI (lv_sub hl [0] rfl) X hF
    · have hF := hF.trans (if_neg c_14)
      refine lv_iconst (v := (0 : Int32)) hx hb dX11_stopAt_17 (by decide) ?_
      exact cx_zret C hI (congrArg Prod.fst hF) (congrArg Prod.snd hF) rfl dX11_stopAt_18
set_option maxHeartbeats 4000000 in
set_option maxRecDepth 100000 in
theorem c_m_stopAt (l : Launch) (g : Gm) (st : CS) (x1 : Int32) : Mi l yX11_stopAt wq_X11_stopAt rm_m_stopAt (gD g) vwCl (mty g) (mw g) (mz g) [.ref (gad g 0), .int x1] st (m_stopAt st x1).1 (m_stopAt st x1).2 := by
  intro sz
  refine Met.ofW (cc := cX11_stopAt) (maxL := 2) (ret := (some .boolean)) (by decide) rfl ?_
  intro p e s m args below meth c s₁ B hml hv
  obtain ⟨rfl, hsz, hP, hK, hD0, hZ⟩ := hv
  subst hsz
  have hl := lv_entry ([.ref (gad g 0), .int x1]) (n := 2) (Nat.le_of_ble_eq_true rfl)
  rw [lg_entry_eq]
  generalize (lg_sl ([.ref (gad g 0), .int x1]) ++ List.replicate (2 - (lg_sl ([.ref (gad g 0), .int x1])).length) Slot.unset).toArray = ls at hl ⊢
  exact k_m_stopAt g ⟨B.exec, B.bytes, B.returns, hml, findClass_of_methodNamed B.named, atoms_spec (ws := wq_X11_stopAt) B.pre, B.notSynchronized, hK, fun q h => Or.inr h, hZ, mz_ok g⟩ st x1 _ _ ls ⟨hP, hD0.self, va_S.rf⟩ hl _ rfl
abbrev wq_X11_isRegister : List Cond := .code yX11_isRegister cX11_isRegister 2 (some .boolean) :: wAll
theorem yd_yX11_isRegister : yX11_isRegister.cls ≠ "java/lang/invoke/MethodHandle" ∧ yX11_isRegister.cls ≠ "java/lang/invoke/VarHandle" ∧ (parseMethodDescriptor yX11_isRegister.desc).map (fun d => d.parameters.length) = some 2 := by decide +kernel
abbrev rm_m_isRegister : Room := { frames := 1, cells := 0, slots := 0, locals := 22 }
def m_isRegister (x0 : Int32) (x1 : Int32) : Int32 := (if ((m_within x0 (0 : Int32) (3 : Int32)) = 0) then (0 : Int32) else (if ((m_within x1 (0 : Int32) (15 : Int32)) = 0) then (0 : Int32) else (1 : Int32)))
set_option maxHeartbeats 4000000 in
set_option maxRecDepth 100000 in
theorem k_m_isRegister {p : Program} {l : Launch} {e : Env} {s : State} {m : MethodId} {args : Array Value} {below : List Frame} {meth : Method} {c : Code} {A : Nat → Prop} (g : Gm) (C : cX p s m args meth c A cX11_isRegister (some .boolean) 2 RX11 wq_X11_isRegister (gD g) vwCl (mty g) (mz g)) (st : CS) (x0 : Int32) (x1 : Int32) (H : Heap) (locs : List Loc) (ls : Array Slot) (hI : cI (gD g) vwCl (mw g) A s st H locs) (hl : lv_has ls 2 [(0, .int x0), (1, .int x1)]) (X : Int32) (hF : X = m_isRegister x0 x1) : W p l e rm_m_isRegister s m args below meth c H locs 0 0 (MQ below (cQi (gD g) vwCl (mty g) (mw g) A st X) args s 0 0 A) (F0 m 0 ls []) := by
  obtain ⟨hx, hb, hr, hml, hown, hts, hlocks, hK, hA, hZ, hzo⟩ := id C
  unfold m_isRegister at hF
  refine lv_iload_n hx hb dX11_isRegister_0 rfl (lv_at hl 0 rfl) ?_
  refine lv_iconst (v := (0 : Int32)) hx hb dX11_isRegister_1 (by decide) ?_
  refine lv_iconst (v := (3 : Int32)) hx hb dX11_isRegister_2 (by decide) ?_
  refine cx_Si (As := [.int x0, .int (0 : Int32), .int (3 : Int32)]) (rest := []) C (c_m_within l g st x0 (0 : Int32) (3 : Int32)) (va_cwS 3 hts (gd_S _ mw238 mw239 mw3 mw240) rfl rfl rfl yd_yX11_within ⟨Nat.le_of_ble_eq_true rfl, Nat.le_of_ble_eq_true rfl⟩) hI rfl hl.1 rfl (Nat.le_of_ble_eq_true rfl) dX11_isRegister_3 (fun H locs hI => ?_)
  refine lv_if_eq (tgt := 23) hx hb dX11_isRegister_6 (by decide) (fun c_6 => ?_) (fun c_6 => ?_)
  · have hF := hF.trans (if_pos c_6)
    refine lv_iconst (v := (0 : Int32)) hx hb dX11_isRegister_23 (by decide) ?_
    exact cx_zret C hI rfl hF rfl dX11_isRegister_24
  · have hF := hF.trans (if_neg c_6)
    refine lv_iload_n hx hb dX11_isRegister_9 rfl (lv_at hl 1 rfl) ?_
    refine lv_iconst (v := (0 : Int32)) hx hb dX11_isRegister_10 (by decide) ?_
    refine lv_bipush (v := (15 : Int32)) hx hb dX11_isRegister_11 (by decide) ?_
    refine cx_Si (As := [.int x1, .int (0 : Int32), .int (15 : Int32)]) (rest := []) C (c_m_within l g st x1 (0 : Int32) (15 : Int32)) (va_cwS 3 hts (gd_S _ mw238 mw239 mw3 mw240) rfl rfl rfl yd_yX11_within ⟨Nat.le_of_ble_eq_true rfl, Nat.le_of_ble_eq_true rfl⟩) hI rfl hl.1 rfl (Nat.le_of_ble_eq_true rfl) dX11_isRegister_13 (fun H locs hI => ?_)
    refine lv_if_eq (tgt := 23) hx hb dX11_isRegister_16 (by decide) (fun c_16 => ?_) (fun c_16 => ?_)
    · have hF := hF.trans (if_pos c_16)
      refine lv_iconst (v := (0 : Int32)) hx hb dX11_isRegister_23 (by decide) ?_
      exact cx_zret C hI rfl hF rfl dX11_isRegister_24
    · have hF := hF.trans (if_neg c_16)
      refine lv_iconst (v := (1 : Int32)) hx hb dX11_isRegister_19 (by decide) ?_
      refine lv_goto (tgt := 24) hx hb dX11_isRegister_20 (by decide) ?_
      exact cx_zret C hI rfl hF rfl dX11_isRegister_24
set_option maxHeartbeats 4000000 in
set_option maxRecDepth 100000 in
theorem c_m_isRegister (l : Launch) (g : Gm) (st : CS) (x0 : Int32) (x1 : Int32) : Mi l yX11_isRegister wq_X11_isRegister rm_m_isRegister (gD g) vwCl (mty g) (mw g) (mz g) [.int x0, .int x1] st st (m_isRegister x0 x1) := by
  intro sz
  refine Met.ofW (cc := cX11_isRegister) (maxL := 2) (ret := (some .boolean)) (by decide) rfl ?_
  intro p e s m args below meth c s₁ B hml hv
  obtain ⟨rfl, hsz, hP, hK, hD0, hZ⟩ := hv
  subst hsz
  have hl := lv_entry ([.int x0, .int x1]) (n := 2) (Nat.le_of_ble_eq_true rfl)
  rw [lg_entry_eq]
  generalize (lg_sl ([.int x0, .int x1]) ++ List.replicate (2 - (lg_sl ([.int x0, .int x1])).length) Slot.unset).toArray = ls at hl ⊢
  exact k_m_isRegister g ⟨B.exec, B.bytes, B.returns, hml, findClass_of_methodNamed B.named, atoms_spec (ws := wq_X11_isRegister) B.pre, B.notSynchronized, hK, fun q h => Or.inr h, hZ, mz_ok g⟩ st x0 x1 _ _ ls ⟨hP, hD0.self, va_S.rf⟩ hl _ rfl
abbrev wq_X11_register : List Cond := .code yX11_register cX11_register 3 (some .int) :: wAll
theorem yd_yX11_register : yX11_register.cls = RX11 ∧ yX11_register.cls ≠ "java/lang/invoke/MethodHandle" ∧ yX11_register.cls ≠ "java/lang/invoke/VarHandle" ∧ (parseMethodDescriptor yX11_register.desc).map (fun d => d.parameters.length) = some 2 := by decide +kernel
abbrev rm_m_register : Room := { frames := 2, cells := 0, slots := 0, locals := 43 }
def m_register (st : CS) (x1 : Int32) (x2 : Int32) : CS × Int32 := (if ((m_isRegister x1 x2) = 0) then ((m_fail (sI st 0 (0 : Int32))).1, (m_fail (sI st 0 (0 : Int32))).2) else ((sI st 0 (0 : Int32)), (m_get (sI st 0 (0 : Int32)) x1 x2)))
def o_m_register (st : CS) (x1 : Int32) (x2 : Int32) : Prop := ((((m_isRegister x1 x2) = 0) → True) ∧ (¬ ((m_isRegister x1 x2) = 0) → ((o_m_get (sI st 0 (0 : Int32)) x1 x2) ∧ True)))
set_option maxHeartbeats 4000000 in
set_option maxRecDepth 100000 in
theorem k_m_register {p : Program} {l : Launch} {e : Env} {s : State} {m : MethodId} {args : Array Value} {below : List Frame} {meth : Method} {c : Code} {A : Nat → Prop} (g : Gm) (C : cX p s m args meth c A cX11_register (some .int) 3 RX11 wq_X11_register (gD g) vwCl (mty g) (mz g)) (st : CS) (x1 : Int32) (x2 : Int32) (H : Heap) (locs : List Loc) (ls : Array Slot) (hI : cI (gD g) vwCl (mw g) A s st H locs) (hl : lv_has ls 3 [(0, .ref (gad g 0)), (1, .int x1), (2, .int x2)]) (hO : o_m_register st x1 x2) (X : CS × Int32) (hF : X = m_register st x1 x2) : W p l e rm_m_register s m args below meth c H locs 0 0 (MQ below (cQi (gD g) vwCl (mty g) (mw g) A X.1 X.2) args s 0 0 A) (F0 m 0 ls []) := by
  obtain ⟨hx, hb, hr, hml, hown, hts, hlocks, hK, hA, hZ, hzo⟩ := id C
  unfold m_register at hF
  unfold o_m_register at hO
  refine lv_aload_n hx hb dX11_register_0 rfl (lv_at hl 0 rfl) ?_
  refine lv_iconst (v := (0 : Int32)) hx hb dX11_register_1 (by decide) ?_
  refine va_put (D := gD g) (ci := 11) (C := RX11) (T := TX11) (N := 50) (v := .int (0 : Int32)) (ty := .int) hx hb hts (fun w h => List.mem_cons_of_mem _ (isX110 w h)) tyX11 tyX11_ok nmX11 hown hK hI.1 hI.2.1 hI.2.2 0 rfl rfl 0 (by decide) (hts _ (List.mem_cons_of_mem _ mw208)) (fun _ h9 => h9) rfl (by decide +kernel) rfl rfl (Nat.le_of_ble_eq_true rfl) dX11_register_2 (fun H locs hP hD hS => ?_)
  have hI : cI (gD g) vwCl (mw g) A s (sI st 0 (0 : Int32)) H locs := ⟨hP, hD, hS⟩
  refine lv_iload_n hx hb dX11_register_5 rfl (lv_at hl 1 rfl) ?_
  refine lv_iload_n hx hb dX11_register_6 rfl (lv_at hl 2 rfl) ?_
  refine cx_Si (As := [.int x1, .int x2]) (rest := []) C (c_m_isRegister l g (sI st 0 (0 : Int32)) x1 x2) (va_cwS 2 hts (gd_S _ mw968 mw969 mw3 mw970) rfl rfl rfl yd_yX11_isRegister ⟨Nat.le_of_ble_eq_true rfl, Nat.le_of_ble_eq_true rfl⟩) hI rfl hl.1 rfl (Nat.le_of_ble_eq_true rfl) dX11_register_7 (fun H locs hI => ?_)
  refine lv_if_eq (tgt := 22) hx hb dX11_register_10 (by decide) (fun c_10 => ?_) (fun c_10 => ?_)
  · have hF := hF.trans (if_pos c_10)
    have hO := hO.1 c_10
    refine lv_aload_n hx hb dX11_register_22 rfl (lv_at hl 0 rfl) ?_
    refine cx_Vi (As := []) (rest := []) C (c_m_fail l g (sI st 0 (0 : Int32)) ) (cwV 0 hts (gd_V _ mw249 mw250 mw251 mw3 mw252) rfl rfl rfl yd_yX11_fail ⟨Nat.le_of_ble_eq_true rfl, Nat.le_of_ble_eq_true rfl⟩) (va_recv hK hI.1 (ci := 11) (q0 := 0) rfl rfl) hI rfl hl.1 rfl (Nat.le_of_ble_eq_true rfl) dX11_register_23 (fun H locs hI => ?_)
    exact cx_iret C hI (congrArg Prod.fst hF) (congrArg Prod.snd hF) dX11_register_26
  · have hF := hF.trans (if_neg c_10)
    have hO := hO.2 c_10
    refine lv_aload_n hx hb dX11_register_13 rfl (lv_at hl 0 rfl) ?_
    refine lv_iload_n hx hb dX11_register_14 rfl (lv_at hl 1 rfl) ?_
    refine lv_iload_n hx hb dX11_register_15 rfl (lv_at hl 2 rfl) ?_
    have hq_16_0 := hO.1
    have hO := hO.2
    refine cx_Vi (As := [.int x1, .int x2]) (rest := []) C (c_m_get l g (sI st 0 (0 : Int32)) x1 x2 hq_16_0) (cwV 2 hts (gd_V _ mw830 mw831 mw832 mw3 mw833) rfl rfl rfl yd_yX11_get ⟨Nat.le_of_ble_eq_true rfl, Nat.le_of_ble_eq_true rfl⟩) (va_recv hK hI.1 (ci := 11) (q0 := 0) rfl rfl) hI rfl hl.1 rfl (Nat.le_of_ble_eq_true rfl) dX11_register_16 (fun H locs hI => ?_)
    refine lv_goto (tgt := 26) hx hb dX11_register_19 (by decide) ?_
    exact cx_iret C hI (congrArg Prod.fst hF) (congrArg Prod.snd hF) dX11_register_26
set_option maxHeartbeats 4000000 in
set_option maxRecDepth 100000 in
theorem c_m_register (l : Launch) (g : Gm) (st : CS) (x1 : Int32) (x2 : Int32) (hO : o_m_register st x1 x2) : Mi l yX11_register wq_X11_register rm_m_register (gD g) vwCl (mty g) (mw g) (mz g) [.ref (gad g 0), .int x1, .int x2] st (m_register st x1 x2).1 (m_register st x1 x2).2 := by
  intro sz
  refine Met.ofW (cc := cX11_register) (maxL := 3) (ret := (some .int)) (by decide) rfl ?_
  intro p e s m args below meth c s₁ B hml hv
  obtain ⟨rfl, hsz, hP, hK, hD0, hZ⟩ := hv
  subst hsz
  have hl := lv_entry ([.ref (gad g 0), .int x1, .int x2]) (n := 3) (Nat.le_of_ble_eq_true rfl)
  rw [lg_entry_eq]
  generalize (lg_sl ([.ref (gad g 0), .int x1, .int x2]) ++ List.replicate (3 - (lg_sl ([.ref (gad g 0), .int x1, .int x2])).length) Slot.unset).toArray = ls at hl ⊢
  exact k_m_register g ⟨B.exec, B.bytes, B.returns, hml, findClass_of_methodNamed B.named, atoms_spec (ws := wq_X11_register) B.pre, B.notSynchronized, hK, fun q h => Or.inr h, hZ, mz_ok g⟩ st x1 x2 _ _ ls ⟨hP, hD0.self, va_S.rf⟩ hl hO _ rfl
abbrev wq_X11_put : List Cond := .code yX11_put cX11_put 4 (some .boolean) :: wAll
theorem yd_yX11_put : yX11_put.cls = RX11 ∧ yX11_put.cls ≠ "java/lang/invoke/MethodHandle" ∧ yX11_put.cls ≠ "java/lang/invoke/VarHandle" ∧ (parseMethodDescriptor yX11_put.desc).map (fun d => d.parameters.length) = some 3 := by decide +kernel
abbrev rm_m_put : Room := { frames := 2, cells := 0, slots := 0, locals := 44 }
def m_put (st : CS) (x1 : Int32) (x2 : Int32) (x3 : Int32) : CS × Int32 := (if ((m_isRegister x1 x2) = 0) then ((sI st 0 (0 : Int32)), (0 : Int32)) else ((m_give (sI st 0 (0 : Int32)) x1 x2 x3), (1 : Int32)))
def o_m_put (st : CS) (x1 : Int32) (x2 : Int32) (x3 : Int32) : Prop := ((((m_isRegister x1 x2) = 0) → True) ∧ (¬ ((m_isRegister x1 x2) = 0) → ((o_m_give (sI st 0 (0 : Int32)) x1 x2 x3) ∧ True)))
set_option maxHeartbeats 4000000 in
set_option maxRecDepth 100000 in
theorem k_m_put {p : Program} {l : Launch} {e : Env} {s : State} {m : MethodId} {args : Array Value} {below : List Frame} {meth : Method} {c : Code} {A : Nat → Prop} (g : Gm) (C : cX p s m args meth c A cX11_put (some .boolean) 4 RX11 wq_X11_put (gD g) vwCl (mty g) (mz g)) (st : CS) (x1 : Int32) (x2 : Int32) (x3 : Int32) (H : Heap) (locs : List Loc) (ls : Array Slot) (hI : cI (gD g) vwCl (mw g) A s st H locs) (hl : lv_has ls 4 [(0, .ref (gad g 0)), (1, .int x1), (2, .int x2), (3, .int x3)]) (hO : o_m_put st x1 x2 x3) (X : CS × Int32) (hF : X = m_put st x1 x2 x3) : W p l e rm_m_put s m args below meth c H locs 0 0 (MQ below (cQi (gD g) vwCl (mty g) (mw g) A X.1 X.2) args s 0 0 A) (F0 m 0 ls []) := by
  obtain ⟨hx, hb, hr, hml, hown, hts, hlocks, hK, hA, hZ, hzo⟩ := id C
  unfold m_put at hF
  unfold o_m_put at hO
  refine lv_aload_n hx hb dX11_put_0 rfl (lv_at hl 0 rfl) ?_
  refine lv_iconst (v := (0 : Int32)) hx hb dX11_put_1 (by decide) ?_
  refine va_put (D := gD g) (ci := 11) (C := RX11) (T := TX11) (N := 50) (v := .int (0 : Int32)) (ty := .int) hx hb hts (fun w h => List.mem_cons_of_mem _ (isX110 w h)) tyX11 tyX11_ok nmX11 hown hK hI.1 hI.2.1 hI.2.2 0 rfl rfl 0 (by decide) (hts _ (List.mem_cons_of_mem _ mw208)) (fun _ h9 => h9) rfl (by decide +kernel) rfl rfl (Nat.le_of_ble_eq_true rfl) dX11_put_2 (fun H locs hP hD hS => ?_)
  have hI : cI (gD g) vwCl (mw g) A s (sI st 0 (0 : Int32)) H locs := ⟨hP, hD, hS⟩
  refine lv_iload_n hx hb dX11_put_5 rfl (lv_at hl 1 rfl) ?_
  refine lv_iload_n hx hb dX11_put_6 rfl (lv_at hl 2 rfl) ?_
  refine cx_Si (As := [.int x1, .int x2]) (rest := []) C (c_m_isRegister l g (sI st 0 (0 : Int32)) x1 x2) (va_cwS 2 hts (gd_S _ mw968 mw969 mw3 mw970) rfl rfl rfl yd_yX11_isRegister ⟨Nat.le_of_ble_eq_true rfl, Nat.le_of_ble_eq_true rfl⟩) hI rfl hl.1 rfl (Nat.le_of_ble_eq_true rfl) dX11_put_7 (fun H locs hI => ?_)
  refine lv_if_ne (tgt := 15) hx hb dX11_put_10 (by decide) (fun c_10 => ?_) (fun c_10 => ?_)
  · have hF := hF.trans (if_neg c_10)
    have hO := hO.2 c_10
    refine lv_aload_n hx hb dX11_put_15 rfl (lv_at hl 0 rfl) ?_
    refine lv_iload_n hx hb dX11_put_16 rfl (lv_at hl 1 rfl) ?_
    refine lv_iload_n hx hb dX11_put_17 rfl (lv_at hl 2 rfl) ?_
    refine lv_iload_n hx hb dX11_put_18 rfl (lv_at hl 3 rfl) ?_
    have hq_19_0 := hO.1
    have hO := hO.2
    refine cx_Vv (As := [.int x1, .int x2, .int x3]) (rest := []) C (c_m_give l g (sI st 0 (0 : Int32)) x1 x2 x3 hq_19_0) (cwV 3 hts (gd_V _ mw777 mw778 mw779 mw3 mw780) rfl rfl rfl yd_yX11_give ⟨Nat.le_of_ble_eq_true rfl, Nat.le_of_ble_eq_true rfl⟩) (va_recv hK hI.1 (ci := 11) (q0 := 0) rfl rfl) hI rfl hl.1 rfl (Nat.le_of_ble_eq_true rfl) dX11_put_19 (fun H locs hI => ?_)
    refine lv_iconst (v := (1 : Int32)) hx hb dX11_put_22 (by decide) ?_
    exact cx_zret C hI (congrArg Prod.fst hF) (congrArg Prod.snd hF) rfl dX11_put_23
  · have hF := hF.trans (if_pos c_10)
    have hO := hO.1 c_10
    refine lv_iconst (v := (0 : Int32)) hx hb dX11_put_13 (by decide) ?_
    exact cx_zret C hI (congrArg Prod.fst hF) (congrArg Prod.snd hF) rfl dX11_put_14
set_option maxHeartbeats 4000000 in
set_option maxRecDepth 100000 in
theorem c_m_put (l : Launch) (g : Gm) (st : CS) (x1 : Int32) (x2 : Int32) (x3 : Int32) (hO : o_m_put st x1 x2 x3) : Mi l yX11_put wq_X11_put rm_m_put (gD g) vwCl (mty g) (mw g) (mz g) [.ref (gad g 0), .int x1, .int x2, .int x3] st (m_put st x1 x2 x3).1 (m_put st x1 x2 x3).2 := by
  intro sz
  refine Met.ofW (cc := cX11_put) (maxL := 4) (ret := (some .boolean)) (by decide) rfl ?_
  intro p e s m args below meth c s₁ B hml hv
  obtain ⟨rfl, hsz, hP, hK, hD0, hZ⟩ := hv
  subst hsz
  have hl := lv_entry ([.ref (gad g 0), .int x1, .int x2, .int x3]) (n := 4) (Nat.le_of_ble_eq_true rfl)
  rw [lg_entry_eq]
  generalize (lg_sl ([.ref (gad g 0), .int x1, .int x2, .int x3]) ++ List.replicate (4 - (lg_sl ([.ref (gad g 0), .int x1, .int x2, .int x3])).length) Slot.unset).toArray = ls at hl ⊢
  exact k_m_put g ⟨B.exec, B.bytes, B.returns, hml, findClass_of_methodNamed B.named, atoms_spec (ws := wq_X11_put) B.pre, B.notSynchronized, hK, fun q h => Or.inr h, hZ, mz_ok g⟩ st x1 x2 x3 _ _ ls ⟨hP, hD0.self, va_S.rf⟩ hl hO _ rfl
abbrev wq_X11_entry : List Cond := .code yX11_entry cX11_entry 3 (some .int) :: wAll
theorem yd_yX11_entry : yX11_entry.cls = RX11 ∧ yX11_entry.cls ≠ "java/lang/invoke/MethodHandle" ∧ yX11_entry.cls ≠ "java/lang/invoke/VarHandle" ∧ (parseMethodDescriptor yX11_entry.desc).map (fun d => d.parameters.length) = some 2 := by decide +kernel
abbrev rm_m_entry : Room := { frames := 1, cells := 0, slots := 0, locals := 22 }
def m_entry (st : CS) (x1 : Int32) (x2 : Int32) : CS × Int32 := (if ((m_within x1 (0 : Int32) (15 : Int32)) = 0) then ((sI st 0 (0 : Int32)), (-1 : Int32)) else (if ((m_within x2 (0 : Int32) (1 : Int32)) = 0) then ((sI st 0 (0 : Int32)), (-1 : Int32)) else (if (x2 = 0) then ((sI st 0 (0 : Int32)), ((gA st 7) x1.toNatClampNeg)) else ((sI st 0 (0 : Int32)), ((gA st 8) x1.toNatClampNeg)))))
def o_m_entry (st : CS) (x1 : Int32) (x2 : Int32) : Prop := ((((m_within x1 (0 : Int32) (15 : Int32)) = 0) → True) ∧ (¬ ((m_within x1 (0 : Int32) (15 : Int32)) = 0) → ((((m_within x2 (0 : Int32) (1 : Int32)) = 0) → True) ∧ (¬ ((m_within x2 (0 : Int32) (1 : Int32)) = 0) → (((x2 = 0) → (vp_in x1 16 ∧ True)) ∧ (¬ (x2 = 0) → (vp_in x1 16 ∧ True)))))))
set_option maxHeartbeats 4000000 in
set_option maxRecDepth 100000 in
theorem k_m_entry {p : Program} {l : Launch} {e : Env} {s : State} {m : MethodId} {args : Array Value} {below : List Frame} {meth : Method} {c : Code} {A : Nat → Prop} (g : Gm) (C : cX p s m args meth c A cX11_entry (some .int) 3 RX11 wq_X11_entry (gD g) vwCl (mty g) (mz g)) (st : CS) (x1 : Int32) (x2 : Int32) (H : Heap) (locs : List Loc) (ls : Array Slot) (hI : cI (gD g) vwCl (mw g) A s st H locs) (hl : lv_has ls 3 [(0, .ref (gad g 0)), (1, .int x1), (2, .int x2)]) (hO : o_m_entry st x1 x2) (X : CS × Int32) (hF : X = m_entry st x1 x2) : W p l e rm_m_entry s m args below meth c H locs 0 0 (MQ below (cQi (gD g) vwCl (mty g) (mw g) A X.1 X.2) args s 0 0 A) (F0 m 0 ls []) := by
  obtain ⟨hx, hb, hr, hml, hown, hts, hlocks, hK, hA, hZ, hzo⟩ := id C
  unfold m_entry at hF
  unfold o_m_entry at hO
  refine lv_aload_n hx hb dX11_entry_0 rfl (lv_at hl 0 rfl) ?_
  refine lv_iconst (v := (0 : Int32)) hx hb dX11_entry_1 (by decide) ?_
  refine va_put (D := gD g) (ci := 11) (C := RX11) (T := TX11) (N := 50) (v := .int (0 : Int32)) (ty := .int) hx hb hts (fun w h => List.mem_cons_of_mem _ (isX110 w h)) tyX11 tyX11_ok nmX11 hown hK hI.1 hI.2.1 hI.2.2 0 rfl rfl 0 (by decide) (hts _ (List.mem_cons_of_mem _ mw208)) (fun _ h9 => h9) rfl (by decide +kernel) rfl rfl (Nat.le_of_ble_eq_true rfl) dX11_entry_2 (fun H locs hP hD hS => ?_)
  have hI : cI (gD g) vwCl (mw g) A s (sI st 0 (0 : Int32)) H locs := ⟨hP, hD, hS⟩
  refine lv_iload_n hx hb dX11_entry_5 rfl (lv_at hl 1 rfl) ?_
  refine lv_iconst (v := (0 : Int32)) hx hb dX11_entry_6 (by decide) ?_
  refine lv_bipush (v := (15 : Int32)) hx hb dX11_entry_7 (by decide) ?_
  refine cx_Si (As := [.int x1, .int (0 : Int32), .int (15 : Int32)]) (rest := []) C (c_m_within l g (sI st 0 (0 : Int32)) x1 (0 : Int32) (15 : Int32)) (va_cwS 3 hts (gd_S _ mw238 mw239 mw3 mw240) rfl rfl rfl yd_yX11_within ⟨Nat.le_of_ble_eq_true rfl, Nat.le_of_ble_eq_true rfl⟩) hI rfl hl.1 rfl (Nat.le_of_ble_eq_true rfl) dX11_entry_9 (fun H locs hI => ?_)
  refine lv_if_eq (tgt := 24) hx hb dX11_entry_12 (by decide) (fun c_12 => ?_) (fun c_12 => ?_)
  · have hF := hF.trans (if_pos c_12)
    have hO := hO.1 c_12
    refine lv_iconst (v := (-1 : Int32)) hx hb dX11_entry_24 (by decide) ?_
    exact cx_iret C hI (congrArg Prod.fst hF) (congrArg Prod.snd hF) dX11_entry_25
  · have hF := hF.trans (if_neg c_12)
    have hO := hO.2 c_12
    refine lv_iload_n hx hb dX11_entry_15 rfl (lv_at hl 2 rfl) ?_
    refine lv_iconst (v := (0 : Int32)) hx hb dX11_entry_16 (by decide) ?_
    refine lv_iconst (v := (1 : Int32)) hx hb dX11_entry_17 (by decide) ?_
    refine cx_Si (As := [.int x2, .int (0 : Int32), .int (1 : Int32)]) (rest := []) C (c_m_within l g (sI st 0 (0 : Int32)) x2 (0 : Int32) (1 : Int32)) (va_cwS 3 hts (gd_S _ mw238 mw239 mw3 mw240) rfl rfl rfl yd_yX11_within ⟨Nat.le_of_ble_eq_true rfl, Nat.le_of_ble_eq_true rfl⟩) hI rfl hl.1 rfl (Nat.le_of_ble_eq_true rfl) dX11_entry_18 (fun H locs hI => ?_)
    refine lv_if_ne (tgt := 26) hx hb dX11_entry_21 (by decide) (fun c_21 => ?_) (fun c_21 => ?_)
    · have hF := hF.trans (if_neg c_21)
      have hO := hO.2 c_21
      refine lv_iload_n hx hb dX11_entry_26 rfl (lv_at hl 2 rfl) ?_
      refine lv_if_ne (tgt := 39) hx hb dX11_entry_27 (by decide) (fun c_27 => ?_) (fun c_27 => ?_)
      · have hF := hF.trans (if_neg c_27)
        have hO := hO.2 c_27
        refine lv_aload_n hx hb dX11_entry_39 rfl (lv_at hl 0 rfl) ?_
        refine va_get (D := gD g) (ci := 11) (C := RX11) (T := TX11) (N := 50) (v := .ref (gad g 9)) hx hb hts (fun w h => List.mem_cons_of_mem _ (isX110 w h)) hown hK hI.1 0 rfl rfl 13 (by decide) (hts _ (List.mem_cons_of_mem _ mw193)) (fun _ h9 => h9) rfl dX11_entry_40 ?_
        refine lv_iload_n hx hb dX11_entry_43 rfl (lv_at hl 1 rfl) ?_
        have hq_44_0 := hO.1
        have hO := hO.2
        refine va_iald (f := (gA st 8)) hx hb hK hI.1 9 8 rfl rfl hq_44_0 dX11_entry_44 ?_
        exact cx_iret C hI (congrArg Prod.fst hF) (congrArg Prod.snd hF) dX11_entry_45
      · have hF := hF.trans (if_pos c_27)
        have hO := hO.1 c_27
        refine lv_aload_n hx hb dX11_entry_30 rfl (lv_at hl 0 rfl) ?_
        refine va_get (D := gD g) (ci := 11) (C := RX11) (T := TX11) (N := 50) (v := .ref (gad g 8)) hx hb hts (fun w h => List.mem_cons_of_mem _ (isX110 w h)) hown hK hI.1 0 rfl rfl 12 (by decide) (hts _ (List.mem_cons_of_mem _ mw192)) (fun _ h9 => h9) rfl dX11_entry_31 ?_
        refine lv_iload_n hx hb dX11_entry_34 rfl (lv_at hl 1 rfl) ?_
        have hq_35_0 := hO.1
        have hO := hO.2
        refine va_iald (f := (gA st 7)) hx hb hK hI.1 8 7 rfl rfl hq_35_0 dX11_entry_35 ?_
        refine lv_goto (tgt := 45) hx hb dX11_entry_36 (by decide) ?_
        exact cx_iret C hI (congrArg Prod.fst hF) (congrArg Prod.snd hF) dX11_entry_45
    · have hF := hF.trans (if_pos c_21)
      have hO := hO.1 c_21
      refine lv_iconst (v := (-1 : Int32)) hx hb dX11_entry_24 (by decide) ?_
      exact cx_iret C hI (congrArg Prod.fst hF) (congrArg Prod.snd hF) dX11_entry_25
set_option maxHeartbeats 4000000 in
set_option maxRecDepth 100000 in
theorem c_m_entry (l : Launch) (g : Gm) (st : CS) (x1 : Int32) (x2 : Int32) (hO : o_m_entry st x1 x2) : Mi l yX11_entry wq_X11_entry rm_m_entry (gD g) vwCl (mty g) (mw g) (mz g) [.ref (gad g 0), .int x1, .int x2] st (m_entry st x1 x2).1 (m_entry st x1 x2).2 := by
  intro sz
  refine Met.ofW (cc := cX11_entry) (maxL := 3) (ret := (some .int)) (by decide) rfl ?_
  intro p e s m args below meth c s₁ B hml hv
  obtain ⟨rfl, hsz, hP, hK, hD0, hZ⟩ := hv
  subst hsz
  have hl := lv_entry ([.ref (gad g 0), .int x1, .int x2]) (n := 3) (Nat.le_of_ble_eq_true rfl)
  rw [lg_entry_eq]
  generalize (lg_sl ([.ref (gad g 0), .int x1, .int x2]) ++ List.replicate (3 - (lg_sl ([.ref (gad g 0), .int x1, .int x2])).length) Slot.unset).toArray = ls at hl ⊢
  exact k_m_entry g ⟨B.exec, B.bytes, B.returns, hml, findClass_of_methodNamed B.named, atoms_spec (ws := wq_X11_entry) B.pre, B.notSynchronized, hK, fun q h => Or.inr h, hZ, mz_ok g⟩ st x1 x2 _ _ ls ⟨hP, hD0.self, va_S.rf⟩ hl hO _ rfl
abbrev wq_X11_device : List Cond := .code yX11_device cX11_device 2 (some .int) :: wAll
theorem yd_yX11_device : yX11_device.cls = RX11 ∧ yX11_device.cls ≠ "java/lang/invoke/MethodHandle" ∧ yX11_device.cls ≠ "java/lang/invoke/VarHandle" ∧ (parseMethodDescriptor yX11_device.desc).map (fun d => d.parameters.length) = some 1 := by decide +kernel
abbrev rm_m_device : Room := { frames := 2, cells := 0, slots := 0, locals := 45 }
def m_device (st : CS) (x1 : Int32) : CS × Int32 := (if ((m_within x1 (0 : Int32) (1048575 : Int32)) = 0) then ((sI st 0 (0 : Int32)), (-1 : Int32)) else ((sI st 0 (0 : Int32)), (m_value (sI st 0 (0 : Int32)) x1)))
def o_m_device (st : CS) (x1 : Int32) : Prop := ((((m_within x1 (0 : Int32) (1048575 : Int32)) = 0) → True) ∧ (¬ ((m_within x1 (0 : Int32) (1048575 : Int32)) = 0) → ((o_m_value (sI st 0 (0 : Int32)) x1) ∧ True)))
set_option maxHeartbeats 4000000 in
set_option maxRecDepth 100000 in
theorem k_m_device {p : Program} {l : Launch} {e : Env} {s : State} {m : MethodId} {args : Array Value} {below : List Frame} {meth : Method} {c : Code} {A : Nat → Prop} (g : Gm) (C : cX p s m args meth c A cX11_device (some .int) 2 RX11 wq_X11_device (gD g) vwCl (mty g) (mz g)) (st : CS) (x1 : Int32) (H : Heap) (locs : List Loc) (ls : Array Slot) (hI : cI (gD g) vwCl (mw g) A s st H locs) (hl : lv_has ls 2 [(0, .ref (gad g 0)), (1, .int x1)]) (hO : o_m_device st x1) (X : CS × Int32) (hF : X = m_device st x1) : W p l e rm_m_device s m args below meth c H locs 0 0 (MQ below (cQi (gD g) vwCl (mty g) (mw g) A X.1 X.2) args s 0 0 A) (F0 m 0 ls []) := by
  obtain ⟨hx, hb, hr, hml, hown, hts, hlocks, hK, hA, hZ, hzo⟩ := id C
  unfold m_device at hF
  unfold o_m_device at hO
  refine lv_aload_n hx hb dX11_device_0 rfl (lv_at hl 0 rfl) ?_
  refine lv_iconst (v := (0 : Int32)) hx hb dX11_device_1 (by decide) ?_
  refine va_put (D := gD g) (ci := 11) (C := RX11) (T := TX11) (N := 50) (v := .int (0 : Int32)) (ty := .int) hx hb hts (fun w h => List.mem_cons_of_mem _ (isX110 w h)) tyX11 tyX11_ok nmX11 hown hK hI.1 hI.2.1 hI.2.2 0 rfl rfl 0 (by decide) (hts _ (List.mem_cons_of_mem _ mw208)) (fun _ h9 => h9) rfl (by decide +kernel) rfl rfl (Nat.le_of_ble_eq_true rfl) dX11_device_2 (fun H locs hP hD hS => ?_)
  have hI : cI (gD g) vwCl (mw g) A s (sI st 0 (0 : Int32)) H locs := ⟨hP, hD, hS⟩
  refine lv_iload_n hx hb dX11_device_5 rfl (lv_at hl 1 rfl) ?_
  refine lv_iconst (v := (0 : Int32)) hx hb dX11_device_6 (by decide) ?_
  refine lv_ldc (v := (1048575 : Int32)) hx hb hown (hts _ (List.mem_cons_of_mem _ mw882)) dX11_device_7 ?_
  refine cx_Si (As := [.int x1, .int (0 : Int32), .int (1048575 : Int32)]) (rest := []) C (c_m_within l g (sI st 0 (0 : Int32)) x1 (0 : Int32) (1048575 : Int32)) (va_cwS 3 hts (gd_S _ mw238 mw239 mw3 mw240) rfl rfl rfl yd_yX11_within ⟨Nat.le_of_ble_eq_true rfl, Nat.le_of_ble_eq_true rfl⟩) hI rfl hl.1 rfl (Nat.le_of_ble_eq_true rfl) dX11_device_9 (fun H locs hI => ?_)
  refine lv_if_eq (tgt := 23) hx hb dX11_device_12 (by decide) (fun c_12 => ?_) (fun c_12 => ?_)
  · have hF := hF.trans (if_pos c_12)
    have hO := hO.1 c_12
    refine lv_iconst (v := (-1 : Int32)) hx hb dX11_device_23 (by decide) ?_
    exact cx_iret C hI (congrArg Prod.fst hF) (congrArg Prod.snd hF) dX11_device_24
  · have hF := hF.trans (if_neg c_12)
    have hO := hO.2 c_12
    refine lv_aload_n hx hb dX11_device_15 rfl (lv_at hl 0 rfl) ?_
    refine lv_iload_n hx hb dX11_device_16 rfl (lv_at hl 1 rfl) ?_
    have hq_17_0 := hO.1
    have hO := hO.2
    refine cx_Vi (As := [.int x1]) (rest := []) C (c_m_value l g (sI st 0 (0 : Int32)) x1 hq_17_0) (cwV 1 hts (gd_V _ mw884 mw885 mw886 mw3 mw887) rfl rfl rfl yd_yX11_value ⟨Nat.le_of_ble_eq_true rfl, Nat.le_of_ble_eq_true rfl⟩) (va_recv hK hI.1 (ci := 11) (q0 := 0) rfl rfl) hI rfl hl.1 rfl (Nat.le_of_ble_eq_true rfl) dX11_device_17 (fun H locs hI => ?_)
    refine lv_goto (tgt := 24) hx hb dX11_device_20 (by decide) ?_
    exact cx_iret C hI (congrArg Prod.fst hF) (congrArg Prod.snd hF) dX11_device_24
set_option maxHeartbeats 4000000 in
set_option maxRecDepth 100000 in
theorem c_m_device (l : Launch) (g : Gm) (st : CS) (x1 : Int32) (hO : o_m_device st x1) : Mi l yX11_device wq_X11_device rm_m_device (gD g) vwCl (mty g) (mw g) (mz g) [.ref (gad g 0), .int x1] st (m_device st x1).1 (m_device st x1).2 := by
  intro sz
  refine Met.ofW (cc := cX11_device) (maxL := 2) (ret := (some .int)) (by decide) rfl ?_
  intro p e s m args below meth c s₁ B hml hv
  obtain ⟨rfl, hsz, hP, hK, hD0, hZ⟩ := hv
  subst hsz
  have hl := lv_entry ([.ref (gad g 0), .int x1]) (n := 2) (Nat.le_of_ble_eq_true rfl)
  rw [lg_entry_eq]
  generalize (lg_sl ([.ref (gad g 0), .int x1]) ++ List.replicate (2 - (lg_sl ([.ref (gad g 0), .int x1])).length) Slot.unset).toArray = ls at hl ⊢
  exact k_m_device g ⟨B.exec, B.bytes, B.returns, hml, findClass_of_methodNamed B.named, atoms_spec (ws := wq_X11_device) B.pre, B.notSynchronized, hK, fun q h => Or.inr h, hZ, mz_ok g⟩ st x1 _ _ ls ⟨hP, hD0.self, va_S.rf⟩ hl hO _ rfl
abbrev wq_X11_allowed : List Cond := .code yX11_allowed cX11_allowed 4 (some .int) :: wAll
theorem yd_yX11_allowed : yX11_allowed.cls = RX11 ∧ yX11_allowed.cls ≠ "java/lang/invoke/MethodHandle" ∧ yX11_allowed.cls ≠ "java/lang/invoke/VarHandle" ∧ (parseMethodDescriptor yX11_allowed.desc).map (fun d => d.parameters.length) = some 3 := by decide +kernel
abbrev rm_m_allowed : Room := { frames := 2, cells := 0, slots := 0, locals := 46 }
def m_allowed_b49 (st : CS) (y2 : Int32) (y1 : Int32) (y0 : Int32) : CS × Int32 := (if ((m_may st y2 y1 y0) = 0) then (st, (0 : Int32)) else (st, (1 : Int32)))
def o_m_allowed_b49 (st : CS) (y2 : Int32) (y1 : Int32) (y0 : Int32) : Prop := ((o_m_may st y2 y1 y0) ∧ True)
set_option maxHeartbeats 4000000 in
set_option maxRecDepth 100000 in
theorem k_m_allowed_b49 {p : Program} {l : Launch} {e : Env} {s : State} {m : MethodId} {args : Array Value} {below : List Frame} {meth : Method} {c : Code} {A : Nat → Prop} (g : Gm) (C : cX p s m args meth c A cX11_allowed (some .int) 4 RX11 wq_X11_allowed (gD g) vwCl (mty g) (mz g)) (st : CS) (y2 : Int32) (y1 : Int32) (y0 : Int32) (H : Heap) (locs : List Loc) (ls : Array Slot) (hI : cI (gD g) vwCl (mw g) A s st H locs) (hl : lv_has ls 4 [(0, .ref (gad g 0))]) (hO : o_m_allowed_b49 st y2 y1 y0) (X : CS × Int32) (hF : X = m_allowed_b49 st y2 y1 y0) : W p l e rm_m_allowed s m args below meth c H locs 0 0 (MQ below (cQi (gD g) vwCl (mty g) (mw g) A X.1 X.2) args s 0 0 A) (F0 m 49 ls [.int y0, .int y1, .int y2, .ref (gad g 0)]) := by
  obtain ⟨hx, hb, hr, hml, hown, hts, hlocks, hK, hA, hZ, hzo⟩ := id C
  unfold m_allowed_b49 at hF
  unfold o_m_allowed_b49 at hO
  have hq_49_0 := hO.1
  have hO := hO.2
  refine cx_Vi (As := [.int y2, .int y1, .int y0]) (rest := []) C (c_m_may l g st y2 y1 y0 hq_49_0) (cwV 3 hts (gd_V _ mw800 mw801 mw802 mw3 mw803) rfl rfl rfl yd_yX11_may ⟨Nat.le_of_ble_eq_true rfl, Nat.le_of_ble_eq_true rfl⟩) (va_recv hK hI.1 (ci := 11) (q0 := 0) rfl rfl) hI rfl hl.1 rfl (Nat.le_of_ble_eq_true rfl) dX11_allowed_49 (fun H locs hI => ?_)
  refine lv_if_eq (tgt := 59) hx hb dX11_allowed_52 (by decide) (fun c_52 => ?_) (fun c_52 => ?_)
  · have hF := hF.trans (if_pos c_52)
    refine lv_iconst (v := (0 : Int32)) hx hb dX11_allowed_59 (by decide) ?_
    exact cx_iret C hI (congrArg Prod.fst hF) (congrArg Prod.snd hF) dX11_allowed_60
  · have hF := hF.trans (if_neg c_52)
    refine lv_iconst (v := (1 : Int32)) hx hb dX11_allowed_55 (by decide) ?_
    refine lv_goto (tgt := 60) hx hb dX11_allowed_56 (by decide) ?_
    exact cx_iret C hI (congrArg Prod.fst hF) (congrArg Prod.snd hF) dX11_allowed_60
def m_allowed (st : CS) (x1 : Int32) (x2 : Int32) (x3 : Int32) : CS × Int32 := (if ((m_within x1 (0 : Int32) (3 : Int32)) = 0) then ((sI st 0 (0 : Int32)), (-1 : Int32)) else (if ((m_within x2 (0 : Int32) (67108863 : Int32)) = 0) then ((sI st 0 (0 : Int32)), (-1 : Int32)) else (if ((m_within x3 (0 : Int32) (1 : Int32)) = 0) then ((sI st 0 (0 : Int32)), (-1 : Int32)) else (if (x3 = (1 : Int32)) then (m_allowed_b49 (sI st 0 (0 : Int32)) x1 x2 (1 : Int32)) else (m_allowed_b49 (sI st 0 (0 : Int32)) x1 x2 (0 : Int32))))))
def o_m_allowed (st : CS) (x1 : Int32) (x2 : Int32) (x3 : Int32) : Prop := ((((m_within x1 (0 : Int32) (3 : Int32)) = 0) → True) ∧ (¬ ((m_within x1 (0 : Int32) (3 : Int32)) = 0) → ((((m_within x2 (0 : Int32) (67108863 : Int32)) = 0) → True) ∧ (¬ ((m_within x2 (0 : Int32) (67108863 : Int32)) = 0) → ((((m_within x3 (0 : Int32) (1 : Int32)) = 0) → True) ∧ (¬ ((m_within x3 (0 : Int32) (1 : Int32)) = 0) → (((x3 = (1 : Int32)) → (o_m_allowed_b49 (sI st 0 (0 : Int32)) x1 x2 (1 : Int32))) ∧ (¬ (x3 = (1 : Int32)) → (o_m_allowed_b49 (sI st 0 (0 : Int32)) x1 x2 (0 : Int32))))))))))
set_option maxHeartbeats 4000000 in
set_option maxRecDepth 100000 in
theorem k_m_allowed {p : Program} {l : Launch} {e : Env} {s : State} {m : MethodId} {args : Array Value} {below : List Frame} {meth : Method} {c : Code} {A : Nat → Prop} (g : Gm) (C : cX p s m args meth c A cX11_allowed (some .int) 4 RX11 wq_X11_allowed (gD g) vwCl (mty g) (mz g)) (st : CS) (x1 : Int32) (x2 : Int32) (x3 : Int32) (H : Heap) (locs : List Loc) (ls : Array Slot) (hI : cI (gD g) vwCl (mw g) A s st H locs) (hl : lv_has ls 4 [(0, .ref (gad g 0)), (1, .int x1), (2, .int x2), (3, .int x3)]) (hO : o_m_allowed st x1 x2 x3) (X : CS × Int32) (hF : X = m_allowed st x1 x2 x3) : W p l e rm_m_allowed s m args below meth c H locs 0 0 (MQ below (cQi (gD g) vwCl (mty g) (mw g) A X.1 X.2) args s 0 0 A) (F0 m 0 ls []) := by
  obtain ⟨hx, hb, hr, hml, hown, hts, hlocks, hK, hA, hZ, hzo⟩ := id C
  unfold m_allowed at hF
  unfold o_m_allowed at hO
  refine lv_aload_n hx hb dX11_allowed_0 rfl (lv_at hl 0 rfl) ?_
  refine lv_iconst (v := (0 : Int32)) hx hb dX11_allowed_1 (by decide) ?_
  refine va_put (D := gD g) (ci := 11) (C := RX11) (T := TX11) (N := 50) (v := .int (0 : Int32)) (ty := .int) hx hb hts (fun w h => List.mem_cons_of_mem _ (isX110 w h)) tyX11 tyX11_ok nmX11 hown hK hI.1 hI.2.1 hI.2.2 0 rfl rfl 0 (by decide) (hts _ (List.mem_cons_of_mem _ mw208)) (fun _ h9 => h9) rfl (by decide +kernel) rfl rfl (Nat.le_of_ble_eq_true rfl) dX11_allowed_2 (fun H locs hP hD hS => ?_)
  have hI : cI (gD g) vwCl (mw g) A s (sI st 0 (0 : Int32)) H locs := ⟨hP, hD, hS⟩
  refine lv_iload_n hx hb dX11_allowed_5 rfl (lv_at hl 1 rfl) ?_
  refine lv_iconst (v := (0 : Int32)) hx hb dX11_allowed_6 (by decide) ?_
  refine lv_iconst (v := (3 : Int32)) hx hb dX11_allowed_7 (by decide) ?_
  refine cx_Si (As := [.int x1, .int (0 : Int32), .int (3 : Int32)]) (rest := []) C (c_m_within l g (sI st 0 (0 : Int32)) x1 (0 : Int32) (3 : Int32)) (va_cwS 3 hts (gd_S _ mw238 mw239 mw3 mw240) rfl rfl rfl yd_yX11_within ⟨Nat.le_of_ble_eq_true rfl, Nat.le_of_ble_eq_true rfl⟩) hI rfl hl.1 rfl (Nat.le_of_ble_eq_true rfl) dX11_allowed_8 (fun H locs hI => ?_)
  refine lv_if_eq (tgt := 34) hx hb dX11_allowed_11 (by decide) (fun c_11 => ?_) (fun c_11 => ?_)
  · have hF := hF.trans (if_pos c_11)
    have hO := hO.1 c_11
    refine lv_iconst (v := (-1 : Int32)) hx hb dX11_allowed_34 (by decide) ?_
    exact cx_iret C hI (congrArg Prod.fst hF) (congrArg Prod.snd hF) dX11_allowed_35
  · have hF := hF.trans (if_neg c_11)
    have hO := hO.2 c_11
    refine lv_iload_n hx hb dX11_allowed_14 rfl (lv_at hl 2 rfl) ?_
    refine lv_iconst (v := (0 : Int32)) hx hb dX11_allowed_15 (by decide) ?_
    refine lv_ldcw (v := (67108863 : Int32)) hx hb hown (hts _ (List.mem_cons_of_mem _ mw1007)) dX11_allowed_16 ?_
    refine cx_Si (As := [.int x2, .int (0 : Int32), .int (67108863 : Int32)]) (rest := []) C (c_m_within l g (sI st 0 (0 : Int32)) x2 (0 : Int32) (67108863 : Int32)) (va_cwS 3 hts (gd_S _ mw238 mw239 mw3 mw240) rfl rfl rfl yd_yX11_within ⟨Nat.le_of_ble_eq_true rfl, Nat.le_of_ble_eq_true rfl⟩) hI rfl hl.1 rfl (Nat.le_of_ble_eq_true rfl) dX11_allowed_19 (fun H locs hI => ?_)
    refine lv_if_eq (tgt := 34) hx hb dX11_allowed_22 (by decide) (fun c_22 => ?_) (fun c_22 => ?_)
    · have hF := hF.trans (if_pos c_22)
      have hO := hO.1 c_22
      refine lv_iconst (v := (-1 : Int32)) hx hb dX11_allowed_34 (by decide) ?_
      exact cx_iret C hI (congrArg Prod.fst hF) (congrArg Prod.snd hF) dX11_allowed_35
    · have hF := hF.trans (if_neg c_22)
      have hO := hO.2 c_22
      refine lv_iload_n hx hb dX11_allowed_25 rfl (lv_at hl 3 rfl) ?_
      refine lv_iconst (v := (0 : Int32)) hx hb dX11_allowed_26 (by decide) ?_
      refine lv_iconst (v := (1 : Int32)) hx hb dX11_allowed_27 (by decide) ?_
      refine cx_Si (As := [.int x3, .int (0 : Int32), .int (1 : Int32)]) (rest := []) C (c_m_within l g (sI st 0 (0 : Int32)) x3 (0 : Int32) (1 : Int32)) (va_cwS 3 hts (gd_S _ mw238 mw239 mw3 mw240) rfl rfl rfl yd_yX11_within ⟨Nat.le_of_ble_eq_true rfl, Nat.le_of_ble_eq_true rfl⟩) hI rfl hl.1 rfl (Nat.le_of_ble_eq_true rfl) dX11_allowed_28 (fun H locs hI => ?_)
      refine lv_if_ne (tgt := 36) hx hb dX11_allowed_31 (by decide) (fun c_31 => ?_) (fun c_31 => ?_)
      · have hF := hF.trans (if_neg c_31)
        have hO := hO.2 c_31
        refine lv_aload_n hx hb dX11_allowed_36 rfl (lv_at hl 0 rfl) ?_
        refine lv_iload_n hx hb dX11_allowed_37 rfl (lv_at hl 1 rfl) ?_
        refine lv_iload_n hx hb dX11_allowed_38 rfl (lv_at hl 2 rfl) ?_
        refine lv_iload_n hx hb dX11_allowed_39 rfl (lv_at hl 3 rfl) ?_
        refine lv_iconst (v := (1 : Int32)) hx hb dX11_allowed_40 (by decide) ?_
        refine lv_icmp_ne (tgt := 48) hx hb dX11_allowed_41 (by decide) (fun c_41 => ?_) (fun c_41 => ?_)
        · have hF := hF.trans (if_neg c_41)
          have hO := hO.2 c_41
          refine lv_iconst (v := (0 : Int32)) hx hb dX11_allowed_48 (by decide) ?_
          exact k_m_allowed_b49 g C (sI st 0 (0 : Int32)) x1 x2 (0 : Int32) H locs ls hI (lv_sub hl [0] rfl) hO X hF
        · have hF := hF.trans (if_pos c_41)
          have hO := hO.1 c_41
          refine lv_iconst (v := (1 : Int32)) hx hb dX11_allowed_44 (by decide) ?_
          refine lv_goto (tgt := 49) hx hb dX11_allowed_45 (by decide) ?_
          exact k_m_allowed_b49 g C (sI st 0 (0 : Int32)) x1 x2 (1 : Int32) H locs ls hI (lv_sub hl [0] rfl) hO X hF
      · have hF := hF.trans (if_pos c_31)
        have hO := hO.1 c_31
        refine lv_iconst (v := (-1 : Int32)) hx hb dX11_allowed_34 (by decide) ?_
        exact cx_iret C hI (congrArg Prod.fst hF) (congrArg Prod.snd hF) dX11_allowed_35
set_option maxHeartbeats 4000000 in
set_option maxRecDepth 100000 in
theorem c_m_allowed (l : Launch) (g : Gm) (st : CS) (x1 : Int32) (x2 : Int32) (x3 : Int32) (hO : o_m_allowed st x1 x2 x3) : Mi l yX11_allowed wq_X11_allowed rm_m_allowed (gD g) vwCl (mty g) (mw g) (mz g) [.ref (gad g 0), .int x1, .int x2, .int x3] st (m_allowed st x1 x2 x3).1 (m_allowed st x1 x2 x3).2 := by
  intro sz
  refine Met.ofW (cc := cX11_allowed) (maxL := 4) (ret := (some .int)) (by decide) rfl ?_
  intro p e s m args below meth c s₁ B hml hv
  obtain ⟨rfl, hsz, hP, hK, hD0, hZ⟩ := hv
  subst hsz
  have hl := lv_entry ([.ref (gad g 0), .int x1, .int x2, .int x3]) (n := 4) (Nat.le_of_ble_eq_true rfl)
  rw [lg_entry_eq]
  generalize (lg_sl ([.ref (gad g 0), .int x1, .int x2, .int x3]) ++ List.replicate (4 - (lg_sl ([.ref (gad g 0), .int x1, .int x2, .int x3])).length) Slot.unset).toArray = ls at hl ⊢
  exact k_m_allowed g ⟨B.exec, B.bytes, B.returns, hml, findClass_of_methodNamed B.named, atoms_spec (ws := wq_X11_allowed) B.pre, B.notSynchronized, hK, fun q h => Or.inr h, hZ, mz_ok g⟩ st x1 x2 x3 _ _ ls ⟨hP, hD0.self, va_S.rf⟩ hl hO _ rfl
abbrev wq_X11_count : List Cond := .code yX11_count cX11_count 2 (some .long) :: wAll
theorem yd_yX11_count : yX11_count.cls = RX11 ∧ yX11_count.cls ≠ "java/lang/invoke/MethodHandle" ∧ yX11_count.cls ≠ "java/lang/invoke/VarHandle" ∧ (parseMethodDescriptor yX11_count.desc).map (fun d => d.parameters.length) = some 1 := by decide +kernel
abbrev rm_m_count : Room := { frames := 1, cells := 0, slots := 0, locals := 22 }
def m_count (st : CS) (x1 : Int32) : CS × Int64 := (if ((m_within x1 (2 : Int32) (8 : Int32)) = 0) then (if x1 = (0 : Int32) then ((sI st 0 (0 : Int32)), (gL st 2)) else (if x1 = (1 : Int32) then ((sI st 0 (0 : Int32)), (gL st 3)) else (if x1 = (9 : Int32) then ((sI st 0 (0 : Int32)), (gL st 4)) else (if x1 = (10 : Int32) then ((sI st 0 (0 : Int32)), (gL st 5)) else (if x1 = (11 : Int32) then ((sI st 0 (0 : Int32)), (gL st 6)) else (if x1 = (12 : Int32) then ((sI st 0 (0 : Int32)), (gL st 1)) else ((sI st 0 (0 : Int32)), (-1 : Int64)))))))) else ((sI st 0 (0 : Int32)), ((gB st 0) (x1 - (2 : Int32)).toNatClampNeg)))
def o_m_count (st : CS) (x1 : Int32) : Prop := ((((m_within x1 (2 : Int32) (8 : Int32)) = 0) → True) ∧ (¬ ((m_within x1 (2 : Int32) (8 : Int32)) = 0) → (vp_in (x1 - (2 : Int32)) 7 ∧ True)))
set_option maxHeartbeats 4000000 in
set_option maxRecDepth 100000 in
theorem k_m_count {p : Program} {l : Launch} {e : Env} {s : State} {m : MethodId} {args : Array Value} {below : List Frame} {meth : Method} {c : Code} {A : Nat → Prop} (g : Gm) (C : cX p s m args meth c A cX11_count (some .long) 2 RX11 wq_X11_count (gD g) vwCl (mty g) (mz g)) (st : CS) (x1 : Int32) (H : Heap) (locs : List Loc) (ls : Array Slot) (hI : cI (gD g) vwCl (mw g) A s st H locs) (hl : lv_has ls 2 [(0, .ref (gad g 0)), (1, .int x1)]) (hO : o_m_count st x1) (X : CS × Int64) (hF : X = m_count st x1) : W p l e rm_m_count s m args below meth c H locs 0 0 (MQ below (cQl (gD g) vwCl (mty g) (mw g) A X.1 X.2) args s 0 0 A) (F0 m 0 ls []) := by
  obtain ⟨hx, hb, hr, hml, hown, hts, hlocks, hK, hA, hZ, hzo⟩ := id C
  unfold m_count at hF
  unfold o_m_count at hO
  refine lv_aload_n hx hb dX11_count_0 rfl (lv_at hl 0 rfl) ?_
  refine lv_iconst (v := (0 : Int32)) hx hb dX11_count_1 (by decide) ?_
  refine va_put (D := gD g) (ci := 11) (C := RX11) (T := TX11) (N := 50) (v := .int (0 : Int32)) (ty := .int) hx hb hts (fun w h => List.mem_cons_of_mem _ (isX110 w h)) tyX11 tyX11_ok nmX11 hown hK hI.1 hI.2.1 hI.2.2 0 rfl rfl 0 (by decide) (hts _ (List.mem_cons_of_mem _ mw208)) (fun _ h9 => h9) rfl (by decide +kernel) rfl rfl (Nat.le_of_ble_eq_true rfl) dX11_count_2 (fun H locs hP hD hS => ?_)
  have hI : cI (gD g) vwCl (mw g) A s (sI st 0 (0 : Int32)) H locs := ⟨hP, hD, hS⟩
  refine lv_iload_n hx hb dX11_count_5 rfl (lv_at hl 1 rfl) ?_
  refine lv_iconst (v := (2 : Int32)) hx hb dX11_count_6 (by decide) ?_
  refine lv_bipush (v := (8 : Int32)) hx hb dX11_count_7 (by decide) ?_
  refine cx_Si (As := [.int x1, .int (2 : Int32), .int (8 : Int32)]) (rest := []) C (c_m_within l g (sI st 0 (0 : Int32)) x1 (2 : Int32) (8 : Int32)) (va_cwS 3 hts (gd_S _ mw238 mw239 mw3 mw240) rfl rfl rfl yd_yX11_within ⟨Nat.le_of_ble_eq_true rfl, Nat.le_of_ble_eq_true rfl⟩) hI rfl hl.1 rfl (Nat.le_of_ble_eq_true rfl) dX11_count_9 (fun H locs hI => ?_)
  refine lv_if_eq (tgt := 24) hx hb dX11_count_12 (by decide) (fun c_12 => ?_) (fun c_12 => ?_)
  · have hF := hF.trans (if_pos c_12)
    have hO := hO.1 c_12
    refine lv_iload_n hx hb dX11_count_24 rfl (lv_at hl 1 rfl) ?_
    by_cases c_25_0 : x1 = (0 : Int32)
    · have hF := hF.trans (if_pos c_25_0)
      refine lv_tableIn (off := 67) (tgt := 92) hx hb dX11_count_25 (by rw [c_25_0]; decide) (by rw [c_25_0]; decide) (by rw [c_25_0]; rfl) (by decide) ?_
      refine lv_aload_n hx hb dX11_count_92 rfl (lv_at hl 0 rfl) ?_
      refine va_get (D := gD g) (ci := 11) (C := RX11) (T := TX11) (N := 50) (v := .long (gL st 2)) hx hb hts (fun w h => List.mem_cons_of_mem _ (isX110 w h)) hown hK hI.1 0 rfl rfl 44 (by decide) (hts _ (List.mem_cons_of_mem _ mw924)) (fun _ h9 => h9) rfl dX11_count_93 ?_
      exact cx_lret C hI (congrArg Prod.fst hF) (congrArg Prod.snd hF) dX11_count_96
    · have hF := hF.trans (if_neg c_25_0)
      by_cases c_25_1 : x1 = (1 : Int32)
      · have hF := hF.trans (if_pos c_25_1)
        refine lv_tableIn (off := 72) (tgt := 97) hx hb dX11_count_25 (by rw [c_25_1]; decide) (by rw [c_25_1]; decide) (by rw [c_25_1]; rfl) (by decide) ?_
        refine lv_aload_n hx hb dX11_count_97 rfl (lv_at hl 0 rfl) ?_
        refine va_get (D := gD g) (ci := 11) (C := RX11) (T := TX11) (N := 50) (v := .long (gL st 3)) hx hb hts (fun w h => List.mem_cons_of_mem _ (isX110 w h)) hown hK hI.1 0 rfl rfl 45 (by decide) (hts _ (List.mem_cons_of_mem _ mw743)) (fun _ h9 => h9) rfl dX11_count_98 ?_
        exact cx_lret C hI (congrArg Prod.fst hF) (congrArg Prod.snd hF) dX11_count_101
      · have hF := hF.trans (if_neg c_25_1)
        by_cases c_25_2 : x1 = (9 : Int32)
        · have hF := hF.trans (if_pos c_25_2)
          refine lv_tableIn (off := 77) (tgt := 102) hx hb dX11_count_25 (by rw [c_25_2]; decide) (by rw [c_25_2]; decide) (by rw [c_25_2]; rfl) (by decide) ?_
          refine lv_aload_n hx hb dX11_count_102 rfl (lv_at hl 0 rfl) ?_
          refine va_get (D := gD g) (ci := 11) (C := RX11) (T := TX11) (N := 50) (v := .long (gL st 4)) hx hb hts (fun w h => List.mem_cons_of_mem _ (isX110 w h)) hown hK hI.1 0 rfl rfl 47 (by decide) (hts _ (List.mem_cons_of_mem _ mw938)) (fun _ h9 => h9) rfl dX11_count_103 ?_
          exact cx_lret C hI (congrArg Prod.fst hF) (congrArg Prod.snd hF) dX11_count_106
        · have hF := hF.trans (if_neg c_25_2)
          by_cases c_25_3 : x1 = (10 : Int32)
          · have hF := hF.trans (if_pos c_25_3)
            refine lv_tableIn (off := 82) (tgt := 107) hx hb dX11_count_25 (by rw [c_25_3]; decide) (by rw [c_25_3]; decide) (by rw [c_25_3]; rfl) (by decide) ?_
            refine lv_aload_n hx hb dX11_count_107 rfl (lv_at hl 0 rfl) ?_
            refine va_get (D := gD g) (ci := 11) (C := RX11) (T := TX11) (N := 50) (v := .long (gL st 5)) hx hb hts (fun w h => List.mem_cons_of_mem _ (isX110 w h)) hown hK hI.1 0 rfl rfl 48 (by decide) (hts _ (List.mem_cons_of_mem _ mw751)) (fun _ h9 => h9) rfl dX11_count_108 ?_
            exact cx_lret C hI (congrArg Prod.fst hF) (congrArg Prod.snd hF) dX11_count_111
          · have hF := hF.trans (if_neg c_25_3)
            by_cases c_25_4 : x1 = (11 : Int32)
            · have hF := hF.trans (if_pos c_25_4)
              refine lv_tableIn (off := 87) (tgt := 112) hx hb dX11_count_25 (by rw [c_25_4]; decide) (by rw [c_25_4]; decide) (by rw [c_25_4]; rfl) (by decide) ?_
              refine lv_aload_n hx hb dX11_count_112 rfl (lv_at hl 0 rfl) ?_
              refine va_get (D := gD g) (ci := 11) (C := RX11) (T := TX11) (N := 50) (v := .long (gL st 6)) hx hb hts (fun w h => List.mem_cons_of_mem _ (isX110 w h)) hown hK hI.1 0 rfl rfl 49 (by decide) (hts _ (List.mem_cons_of_mem _ mw932)) (fun _ h9 => h9) rfl dX11_count_113 ?_
              exact cx_lret C hI (congrArg Prod.fst hF) (congrArg Prod.snd hF) dX11_count_116
            · have hF := hF.trans (if_neg c_25_4)
              by_cases c_25_5 : x1 = (12 : Int32)
              · have hF := hF.trans (if_pos c_25_5)
                refine lv_tableIn (off := 92) (tgt := 117) hx hb dX11_count_25 (by rw [c_25_5]; decide) (by rw [c_25_5]; decide) (by rw [c_25_5]; rfl) (by decide) ?_
                refine lv_aload_n hx hb dX11_count_117 rfl (lv_at hl 0 rfl) ?_
                refine va_get (D := gD g) (ci := 11) (C := RX11) (T := TX11) (N := 50) (v := .long (gL st 1)) hx hb hts (fun w h => List.mem_cons_of_mem _ (isX110 w h)) hown hK hI.1 0 rfl rfl 42 (by decide) (hts _ (List.mem_cons_of_mem _ mw899)) (fun _ h9 => h9) rfl dX11_count_118 ?_
                exact cx_lret C hI (congrArg Prod.fst hF) (congrArg Prod.snd hF) dX11_count_121
              · have hF := hF.trans (if_neg c_25_5)
                by_cases cg_25_2 : x1 = (2 : Int32)
                · refine lv_tableIn (off := 97) (tgt := 122) hx hb dX11_count_25 (by rw [cg_25_2]; decide) (by rw [cg_25_2]; decide) (by rw [cg_25_2]; rfl) (by decide) ?_
                  refine lv_ldc2 (v := (-1 : Int64)) hx hb hown (hts _ (List.mem_cons_of_mem _ mw1023)) dX11_count_122 ?_
                  exact cx_lret C hI (congrArg Prod.fst hF) (congrArg Prod.snd hF) dX11_count_125
                by_cases cg_25_3 : x1 = (3 : Int32)
                · refine lv_tableIn (off := 97) (tgt := 122) hx hb dX11_count_25 (by rw [cg_25_3]; decide) (by rw [cg_25_3]; decide) (by rw [cg_25_3]; rfl) (by decide) ?_
                  refine lv_ldc2 (v := (-1 : Int64)) hx hb hown (hts _ (List.mem_cons_of_mem _ mw1023)) dX11_count_122 ?_
                  exact cx_lret C hI (congrArg Prod.fst hF) (congrArg Prod.snd hF) dX11_count_125
                by_cases cg_25_4 : x1 = (4 : Int32)
                · refine lv_tableIn (off := 97) (tgt := 122) hx hb dX11_count_25 (by rw [cg_25_4]; decide) (by rw [cg_25_4]; decide) (by rw [cg_25_4]; rfl) (by decide) ?_
                  refine lv_ldc2 (v := (-1 : Int64)) hx hb hown (hts _ (List.mem_cons_of_mem _ mw1023)) dX11_count_122 ?_
                  exact cx_lret C hI (congrArg Prod.fst hF) (congrArg Prod.snd hF) dX11_count_125
                by_cases cg_25_5 : x1 = (5 : Int32)
                · refine lv_tableIn (off := 97) (tgt := 122) hx hb dX11_count_25 (by rw [cg_25_5]; decide) (by rw [cg_25_5]; decide) (by rw [cg_25_5]; rfl) (by decide) ?_
                  refine lv_ldc2 (v := (-1 : Int64)) hx hb hown (hts _ (List.mem_cons_of_mem _ mw1023)) dX11_count_122 ?_
                  exact cx_lret C hI (congrArg Prod.fst hF) (congrArg Prod.snd hF) dX11_count_125
                by_cases cg_25_6 : x1 = (6 : Int32)
                · refine lv_tableIn (off := 97) (tgt := 122) hx hb dX11_count_25 (by rw [cg_25_6]; decide) (by rw [cg_25_6]; decide) (by rw [cg_25_6]; rfl) (by decide) ?_
                  refine lv_ldc2 (v := (-1 : Int64)) hx hb hown (hts _ (List.mem_cons_of_mem _ mw1023)) dX11_count_122 ?_
                  exact cx_lret C hI (congrArg Prod.fst hF) (congrArg Prod.snd hF) dX11_count_125
                by_cases cg_25_7 : x1 = (7 : Int32)
                · refine lv_tableIn (off := 97) (tgt := 122) hx hb dX11_count_25 (by rw [cg_25_7]; decide) (by rw [cg_25_7]; decide) (by rw [cg_25_7]; rfl) (by decide) ?_
                  refine lv_ldc2 (v := (-1 : Int64)) hx hb hown (hts _ (List.mem_cons_of_mem _ mw1023)) dX11_count_122 ?_
                  exact cx_lret C hI (congrArg Prod.fst hF) (congrArg Prod.snd hF) dX11_count_125
                by_cases cg_25_8 : x1 = (8 : Int32)
                · refine lv_tableIn (off := 97) (tgt := 122) hx hb dX11_count_25 (by rw [cg_25_8]; decide) (by rw [cg_25_8]; decide) (by rw [cg_25_8]; rfl) (by decide) ?_
                  refine lv_ldc2 (v := (-1 : Int64)) hx hb hown (hts _ (List.mem_cons_of_mem _ mw1023)) dX11_count_122 ?_
                  exact cx_lret C hI (congrArg Prod.fst hF) (congrArg Prod.snd hF) dX11_count_125
                refine lv_tableOut (tgt := 122) hx hb dX11_count_25 (by have h0 := lv_neT (a := 0) c_25_0 (by decide); have h1 := lv_neT (a := 1) c_25_1 (by decide); have h2 := lv_neT (a := 9) c_25_2 (by decide); have h3 := lv_neT (a := 10) c_25_3 (by decide); have h4 := lv_neT (a := 11) c_25_4 (by decide); have h5 := lv_neT (a := 12) c_25_5 (by decide); have g0 := lv_neT (a := 2) cg_25_2 (by decide); have g1 := lv_neT (a := 3) cg_25_3 (by decide); have g2 := lv_neT (a := 4) cg_25_4 (by decide); have g3 := lv_neT (a := 5) cg_25_5 (by decide); have g4 := lv_neT (a := 6) cg_25_6 (by decide); have g5 := lv_neT (a := 7) cg_25_7 (by decide); have g6 := lv_neT (a := 8) cg_25_8 (by decide); omega) (by decide) ?_
                refine lv_ldc2 (v := (-1 : Int64)) hx hb hown (hts _ (List.mem_cons_of_mem _ mw1023)) dX11_count_122 ?_
                exact cx_lret C hI (congrArg Prod.fst hF) (congrArg Prod.snd hF) dX11_count_125
  · have hF := hF.trans (if_neg c_12)
    have hO := hO.2 c_12
    refine lv_aload_n hx hb dX11_count_15 rfl (lv_at hl 0 rfl) ?_
    refine va_get (D := gD g) (ci := 11) (C := RX11) (T := TX11) (N := 50) (v := .ref (gad g 18)) hx hb hts (fun w h => List.mem_cons_of_mem _ (isX110 w h)) hown hK hI.1 0 rfl rfl 46 (by decide) (hts _ (List.mem_cons_of_mem _ mw203)) (fun _ h9 => h9) rfl dX11_count_16 ?_
    refine lv_iload_n hx hb dX11_count_19 rfl (lv_at hl 1 rfl) ?_
    refine lv_iconst (v := (2 : Int32)) hx hb dX11_count_20 (by decide) ?_
    refine lv_isub hx hb dX11_count_21 ?_
    have hq_22_0 := hO.1
    have hO := hO.2
    refine va_lald (f := (gB st 0)) hx hb hK hI.1 18 17 rfl rfl hq_22_0 dX11_count_22 ?_
    exact cx_lret C hI (congrArg Prod.fst hF) (congrArg Prod.snd hF) dX11_count_23
set_option maxHeartbeats 4000000 in
set_option maxRecDepth 100000 in
theorem c_m_count (l : Launch) (g : Gm) (st : CS) (x1 : Int32) (hO : o_m_count st x1) : Ml l yX11_count wq_X11_count rm_m_count (gD g) vwCl (mty g) (mw g) (mz g) [.ref (gad g 0), .int x1] st (m_count st x1).1 (m_count st x1).2 := by
  intro sz
  refine Met.ofW (cc := cX11_count) (maxL := 2) (ret := (some .long)) (by decide) rfl ?_
  intro p e s m args below meth c s₁ B hml hv
  obtain ⟨rfl, hsz, hP, hK, hD0, hZ⟩ := hv
  subst hsz
  have hl := lv_entry ([.ref (gad g 0), .int x1]) (n := 2) (Nat.le_of_ble_eq_true rfl)
  rw [lg_entry_eq]
  generalize (lg_sl ([.ref (gad g 0), .int x1]) ++ List.replicate (2 - (lg_sl ([.ref (gad g 0), .int x1])).length) Slot.unset).toArray = ls at hl ⊢
  exact k_m_count g ⟨B.exec, B.bytes, B.returns, hml, findClass_of_methodNamed B.named, atoms_spec (ws := wq_X11_count) B.pre, B.notSynchronized, hK, fun q h => Or.inr h, hZ, mz_ok g⟩ st x1 _ _ ls ⟨hP, hD0.self, va_S.rf⟩ hl hO _ rfl
abbrev wq_X11_look : List Cond := .code yX11_look cX11_look 2 (some .int) :: wAll
theorem yd_yX11_look : yX11_look.cls = RX11 ∧ yX11_look.cls ≠ "java/lang/invoke/MethodHandle" ∧ yX11_look.cls ≠ "java/lang/invoke/VarHandle" ∧ (parseMethodDescriptor yX11_look.desc).map (fun d => d.parameters.length) = some 1 := by decide +kernel
abbrev rm_m_look : Room := { frames := 2, cells := 0, slots := 0, locals := 40 }
def m_look_b111 (st : CS) (x1 : Int32) : CS × Int32 := (st, ((gA st 10) (x1 - (3 : Int32)).toNatClampNeg))
def o_m_look_b111 (st : CS) (x1 : Int32) : Prop := (vp_in (x1 - (3 : Int32)) 3 ∧ True)
set_option maxHeartbeats 4000000 in
set_option maxRecDepth 100000 in
theorem k_m_look_b111 {p : Program} {l : Launch} {e : Env} {s : State} {m : MethodId} {args : Array Value} {below : List Frame} {meth : Method} {c : Code} {A : Nat → Prop} (g : Gm) (C : cX p s m args meth c A cX11_look (some .int) 2 RX11 wq_X11_look (gD g) vwCl (mty g) (mz g)) (st : CS) (x1 : Int32) (H : Heap) (locs : List Loc) (ls : Array Slot) (hI : cI (gD g) vwCl (mw g) A s st H locs) (hl : lv_has ls 2 [(0, .ref (gad g 0)), (1, .int x1)]) (hO : o_m_look_b111 st x1) (X : CS × Int32) (hF : X = m_look_b111 st x1) : W p l e rm_m_look s m args below meth c H locs 0 0 (MQ below (cQi (gD g) vwCl (mty g) (mw g) A X.1 X.2) args s 0 0 A) (F0 m 111 ls []) := by
  obtain ⟨hx, hb, hr, hml, hown, hts, hlocks, hK, hA, hZ, hzo⟩ := id C
  unfold m_look_b111 at hF
  unfold o_m_look_b111 at hO
  refine lv_aload_n hx hb dX11_look_111 rfl (lv_at hl 0 rfl) ?_
  refine va_get (D := gD g) (ci := 11) (C := RX11) (T := TX11) (N := 50) (v := .ref (gad g 11)) hx hb hts (fun w h => List.mem_cons_of_mem _ (isX110 w h)) hown hK hI.1 0 rfl rfl 19 (by decide) (hts _ (List.mem_cons_of_mem _ mw195)) (fun _ h9 => h9) rfl dX11_look_112 ?_
  refine lv_iload_n hx hb dX11_look_115 rfl (lv_at hl 1 rfl) ?_
  refine lv_iconst (v := (3 : Int32)) hx hb dX11_look_116 (by decide) ?_
  refine lv_isub hx hb dX11_look_117 ?_
  have hq_118_0 := hO.1
  have hO := hO.2
  refine va_iald (f := (gA st 10)) hx hb hK hI.1 11 10 rfl rfl hq_118_0 dX11_look_118 ?_
  exact cx_iret C hI (congrArg Prod.fst hF) (congrArg Prod.snd hF) dX11_look_119
def m_look_b125 (st : CS) (x1 : Int32) : CS × Int32 := (st, ((gA st 14) (x1 - (7 : Int32)).toNatClampNeg))
def o_m_look_b125 (st : CS) (x1 : Int32) : Prop := (vp_in (x1 - (7 : Int32)) 2 ∧ True)
set_option maxHeartbeats 4000000 in
set_option maxRecDepth 100000 in
theorem k_m_look_b125 {p : Program} {l : Launch} {e : Env} {s : State} {m : MethodId} {args : Array Value} {below : List Frame} {meth : Method} {c : Code} {A : Nat → Prop} (g : Gm) (C : cX p s m args meth c A cX11_look (some .int) 2 RX11 wq_X11_look (gD g) vwCl (mty g) (mz g)) (st : CS) (x1 : Int32) (H : Heap) (locs : List Loc) (ls : Array Slot) (hI : cI (gD g) vwCl (mw g) A s st H locs) (hl : lv_has ls 2 [(0, .ref (gad g 0)), (1, .int x1)]) (hO : o_m_look_b125 st x1) (X : CS × Int32) (hF : X = m_look_b125 st x1) : W p l e rm_m_look s m args below meth c H locs 0 0 (MQ below (cQi (gD g) vwCl (mty g) (mw g) A X.1 X.2) args s 0 0 A) (F0 m 125 ls []) := by
  obtain ⟨hx, hb, hr, hml, hown, hts, hlocks, hK, hA, hZ, hzo⟩ := id C
  unfold m_look_b125 at hF
  unfold o_m_look_b125 at hO
  refine lv_aload_n hx hb dX11_look_125 rfl (lv_at hl 0 rfl) ?_
  refine va_get (D := gD g) (ci := 11) (C := RX11) (T := TX11) (N := 50) (v := .ref (gad g 15)) hx hb hts (fun w h => List.mem_cons_of_mem _ (isX110 w h)) hown hK hI.1 0 rfl rfl 25 (by decide) (hts _ (List.mem_cons_of_mem _ mw199)) (fun _ h9 => h9) rfl dX11_look_126 ?_
  refine lv_iload_n hx hb dX11_look_129 rfl (lv_at hl 1 rfl) ?_
  refine lv_bipush (v := (7 : Int32)) hx hb dX11_look_130 (by decide) ?_
  refine lv_isub hx hb dX11_look_132 ?_
  have hq_133_0 := hO.1
  have hO := hO.2
  refine va_iald (f := (gA st 14)) hx hb hK hI.1 15 14 rfl rfl hq_133_0 dX11_look_133 ?_
  exact cx_iret C hI (congrArg Prod.fst hF) (congrArg Prod.snd hF) dX11_look_134
def m_look (st : CS) (x1 : Int32) : CS × Int32 := (if ((m_within x1 (16 : Int32) (31 : Int32)) = 0) then (if x1 = (0 : Int32) then ((sI st 0 (0 : Int32)), (gI st 6)) else (if x1 = (1 : Int32) then ((sI st 0 (0 : Int32)), (gI st 7)) else (if x1 = (2 : Int32) then ((sI st 0 (0 : Int32)), (gI st 8)) else (if x1 = (3 : Int32) then (m_look_b111 (sI st 0 (0 : Int32)) x1) else (if x1 = (4 : Int32) then (m_look_b111 (sI st 0 (0 : Int32)) x1) else (if x1 = (5 : Int32) then (m_look_b111 (sI st 0 (0 : Int32)) x1) else (if x1 = (6 : Int32) then ((sI st 0 (0 : Int32)), (gI st 5)) else (if x1 = (7 : Int32) then (m_look_b125 (sI st 0 (0 : Int32)) x1) else (if x1 = (8 : Int32) then (m_look_b125 (sI st 0 (0 : Int32)) x1) else (if x1 = (9 : Int32) then ((sI st 0 (0 : Int32)), (gI st 18)) else (if x1 = (10 : Int32) then ((sI st 0 (0 : Int32)), (gI st 15)) else (if x1 = (11 : Int32) then ((sI st 0 (0 : Int32)), ((20000 : Int32) - (((gL st 0) - (gL st 0) / (20000 : Int64) * (20000 : Int64)).toInt32))) else (if x1 = (12 : Int32) then (if ((m_irqLine (sI st 0 (0 : Int32))) = 0) then ((sI st 0 (0 : Int32)), (0 : Int32)) else ((sI st 0 (0 : Int32)), (1 : Int32))) else (if x1 = (13 : Int32) then (if ((m_fiqLine (sI st 0 (0 : Int32))) = 0) then ((sI st 0 (0 : Int32)), (0 : Int32)) else ((sI st 0 (0 : Int32)), (1 : Int32))) else ((sI st 0 (0 : Int32)), (-1 : Int32)))))))))))))))) else ((sI st 0 (0 : Int32)), ((gA st 9) (x1 - (16 : Int32)).toNatClampNeg)))
def o_m_look (st : CS) (x1 : Int32) : Prop := ((((m_within x1 (16 : Int32) (31 : Int32)) = 0) → ((x1 = (0 : Int32) → True) ∧ (¬ x1 = (0 : Int32) → ((x1 = (1 : Int32) → True) ∧ (¬ x1 = (1 : Int32) → ((x1 = (2 : Int32) → True) ∧ (¬ x1 = (2 : Int32) → ((x1 = (3 : Int32) → (o_m_look_b111 (sI st 0 (0 : Int32)) x1)) ∧ (¬ x1 = (3 : Int32) → ((x1 = (4 : Int32) → (o_m_look_b111 (sI st 0 (0 : Int32)) x1)) ∧ (¬ x1 = (4 : Int32) → ((x1 = (5 : Int32) → (o_m_look_b111 (sI st 0 (0 : Int32)) x1)) ∧ (¬ x1 = (5 : Int32) → ((x1 = (6 : Int32) → True) ∧ (¬ x1 = (6 : Int32) → ((x1 = (7 : Int32) → (o_m_look_b125 (sI st 0 (0 : Int32)) x1)) ∧ (¬ x1 = (7 : Int32) → ((x1 = (8 : Int32) → (o_m_look_b125 (sI st 0 (0 : Int32)) x1)) ∧ (¬ x1 = (8 : Int32) → True))))))))))))))))))) ∧ (¬ ((m_within x1 (16 : Int32) (31 : Int32)) = 0) → (vp_in (x1 - (16 : Int32)) 16 ∧ True)))
set_option maxHeartbeats 4000000 in
set_option maxRecDepth 100000 in
theorem k_m_look {p : Program} {l : Launch} {e : Env} {s : State} {m : MethodId} {args : Array Value} {below : List Frame} {meth : Method} {c : Code} {A : Nat → Prop} (g : Gm) (C : cX p s m args meth c A cX11_look (some .int) 2 RX11 wq_X11_look (gD g) vwCl (mty g) (mz g)) (st : CS) (x1 : Int32) (H : Heap) (locs : List Loc) (ls : Array Slot) (hI : cI (gD g) vwCl (mw g) A s st H locs) (hl : lv_has ls 2 [(0, .ref (gad g 0)), (1, .int x1)]) (hO : o_m_look st x1) (X : CS × Int32) (hF : X = m_look st x1) : W p l e rm_m_look s m args below meth c H locs 0 0 (MQ below (cQi (gD g) vwCl (mty g) (mw g) A X.1 X.2) args s 0 0 A) (F0 m 0 ls []) := by
  obtain ⟨hx, hb, hr, hml, hown, hts, hlocks, hK, hA, hZ, hzo⟩ := id C
  unfold m_look at hF
  unfold o_m_look at hO
  refine lv_aload_n hx hb dX11_look_0 rfl (lv_at hl 0 rfl) ?_
  refine lv_iconst (v := (0 : Int32)) hx hb dX11_look_1 (by decide) ?_
  refine va_put (D := gD g) (ci := 11) (C := RX11) (T := TX11) (N := 50) (v := .int (0 : Int32)) (ty := .int) hx hb hts (fun w h => List.mem_cons_of_mem _ (isX110 w h)) tyX11 tyX11_ok nmX11 hown hK hI.1 hI.2.1 hI.2.2 0 rfl rfl 0 (by decide) (hts _ (List.mem_cons_of_mem _ mw208)) (fun _ h9 => h9) rfl (by decide +kernel) rfl rfl (Nat.le_of_ble_eq_true rfl) dX11_look_2 (fun H locs hP hD hS => ?_)
  have hI : cI (gD g) vwCl (mw g) A s (sI st 0 (0 : Int32)) H locs := ⟨hP, hD, hS⟩
  refine lv_iload_n hx hb dX11_look_5 rfl (lv_at hl 1 rfl) ?_
  refine lv_bipush (v := (16 : Int32)) hx hb dX11_look_6 (by decide) ?_
  refine lv_bipush (v := (31 : Int32)) hx hb dX11_look_8 (by decide) ?_
  refine cx_Si (As := [.int x1, .int (16 : Int32), .int (31 : Int32)]) (rest := []) C (c_m_within l g (sI st 0 (0 : Int32)) x1 (16 : Int32) (31 : Int32)) (va_cwS 3 hts (gd_S _ mw238 mw239 mw3 mw240) rfl rfl rfl yd_yX11_within ⟨Nat.le_of_ble_eq_true rfl, Nat.le_of_ble_eq_true rfl⟩) hI rfl hl.1 rfl (Nat.le_of_ble_eq_true rfl) dX11_look_10 (fun H locs hI => ?_)
  refine lv_if_eq (tgt := 26) hx hb dX11_look_13 (by decide) (fun c_13 => ?_) (fun c_13 => ?_)
  · have hF := hF.trans (if_pos c_13)
    have hO := hO.1 c_13
    refine lv_iload_n hx hb dX11_look_26 rfl (lv_at hl 1 rfl) ?_
    by_cases c_27_0 : x1 = (0 : Int32)
    · have hF := hF.trans (if_pos c_27_0)
      have hO := hO.1 c_27_0
      refine lv_tableIn (off := 69) (tgt := 96) hx hb dX11_look_27 (by rw [c_27_0]; decide) (by rw [c_27_0]; decide) (by rw [c_27_0]; rfl) (by decide) ?_
      refine lv_aload_n hx hb dX11_look_96 rfl (lv_at hl 0 rfl) ?_
      refine va_get (D := gD g) (ci := 11) (C := RX11) (T := TX11) (N := 50) (v := .int (gI st 6)) hx hb hts (fun w h => List.mem_cons_of_mem _ (isX110 w h)) hown hK hI.1 0 rfl rfl 16 (by decide) (hts _ (List.mem_cons_of_mem _ mw212)) (fun _ h9 => h9) rfl dX11_look_97 ?_
      exact cx_iret C hI (congrArg Prod.fst hF) (congrArg Prod.snd hF) dX11_look_100
    · have hF := hF.trans (if_neg c_27_0)
      have hO := hO.2 c_27_0
      by_cases c_27_1 : x1 = (1 : Int32)
      · have hF := hF.trans (if_pos c_27_1)
        have hO := hO.1 c_27_1
        refine lv_tableIn (off := 74) (tgt := 101) hx hb dX11_look_27 (by rw [c_27_1]; decide) (by rw [c_27_1]; decide) (by rw [c_27_1]; rfl) (by decide) ?_
        refine lv_aload_n hx hb dX11_look_101 rfl (lv_at hl 0 rfl) ?_
        refine va_get (D := gD g) (ci := 11) (C := RX11) (T := TX11) (N := 50) (v := .int (gI st 7)) hx hb hts (fun w h => List.mem_cons_of_mem _ (isX110 w h)) hown hK hI.1 0 rfl rfl 17 (by decide) (hts _ (List.mem_cons_of_mem _ mw213)) (fun _ h9 => h9) rfl dX11_look_102 ?_
        exact cx_iret C hI (congrArg Prod.fst hF) (congrArg Prod.snd hF) dX11_look_105
      · have hF := hF.trans (if_neg c_27_1)
        have hO := hO.2 c_27_1
        by_cases c_27_2 : x1 = (2 : Int32)
        · have hF := hF.trans (if_pos c_27_2)
          have hO := hO.1 c_27_2
          refine lv_tableIn (off := 79) (tgt := 106) hx hb dX11_look_27 (by rw [c_27_2]; decide) (by rw [c_27_2]; decide) (by rw [c_27_2]; rfl) (by decide) ?_
          refine lv_aload_n hx hb dX11_look_106 rfl (lv_at hl 0 rfl) ?_
          refine va_get (D := gD g) (ci := 11) (C := RX11) (T := TX11) (N := 50) (v := .int (gI st 8)) hx hb hts (fun w h => List.mem_cons_of_mem _ (isX110 w h)) hown hK hI.1 0 rfl rfl 18 (by decide) (hts _ (List.mem_cons_of_mem _ mw214)) (fun _ h9 => h9) rfl dX11_look_107 ?_
          exact cx_iret C hI (congrArg Prod.fst hF) (congrArg Prod.snd hF) dX11_look_110
        · have hF := hF.trans (if_neg c_27_2)
          have hO := hO.2 c_27_2
          by_cases c_27_3 : x1 = (3 : Int32)
          · have hF := hF.trans (if_pos c_27_3)
            have hO := hO.1 c_27_3
            refine lv_tableIn (off := 84) (tgt := 111) hx hb dX11_look_27 (by rw [c_27_3]; decide) (by rw [c_27_3]; decide) (by rw [c_27_3]; rfl) (by decide) ?_
            exact k_m_look_b111 g C (sI st 0 (0 : Int32)) x1 H locs ls hI (lv_sub hl [0, 1] rfl) hO X hF
          · have hF := hF.trans (if_neg c_27_3)
            have hO := hO.2 c_27_3
            by_cases c_27_4 : x1 = (4 : Int32)
            · have hF := hF.trans (if_pos c_27_4)
              have hO := hO.1 c_27_4
              refine lv_tableIn (off := 84) (tgt := 111) hx hb dX11_look_27 (by rw [c_27_4]; decide) (by rw [c_27_4]; decide) (by rw [c_27_4]; rfl) (by decide) ?_
              exact k_m_look_b111 g C (sI st 0 (0 : Int32)) x1 H locs ls hI (lv_sub hl [0, 1] rfl) hO X hF
            · have hF := hF.trans (if_neg c_27_4)
              have hO := hO.2 c_27_4
              by_cases c_27_5 : x1 = (5 : Int32)
              · have hF := hF.trans (if_pos c_27_5)
                have hO := hO.1 c_27_5
                refine lv_tableIn (off := 84) (tgt := 111) hx hb dX11_look_27 (by rw [c_27_5]; decide) (by rw [c_27_5]; decide) (by rw [c_27_5]; rfl) (by decide) ?_
                exact k_m_look_b111 g C (sI st 0 (0 : Int32)) x1 H locs ls hI (lv_sub hl [0, 1] rfl) hO X hF
              · have hF := hF.trans (if_neg c_27_5)
                have hO := hO.2 c_27_5
                by_cases c_27_6 : x1 = (6 : Int32)
                · have hF := hF.trans (if_pos c_27_6)
                  have hO := hO.1 c_27_6
                  refine lv_tableIn (off := 93) (tgt := 120) hx hb dX11_look_27 (by rw [c_27_6]; decide) (by rw [c_27_6]; decide) (by rw [c_27_6]; rfl) (by decide) ?_
                  refine lv_aload_n hx hb dX11_look_120 rfl (lv_at hl 0 rfl) ?_
                  refine va_get (D := gD g) (ci := 11) (C := RX11) (T := TX11) (N := 50) (v := .int (gI st 5)) hx hb hts (fun w h => List.mem_cons_of_mem _ (isX110 w h)) hown hK hI.1 0 rfl rfl 15 (by decide) (hts _ (List.mem_cons_of_mem _ mw211)) (fun _ h9 => h9) rfl dX11_look_121 ?_
                  exact cx_iret C hI (congrArg Prod.fst hF) (congrArg Prod.snd hF) dX11_look_124
                · have hF := hF.trans (if_neg c_27_6)
                  have hO := hO.2 c_27_6
                  by_cases c_27_7 : x1 = (7 : Int32)
                  · have hF := hF.trans (if_pos c_27_7)
                    have hO := hO.1 c_27_7
                    refine lv_tableIn (off := 98) (tgt := 125) hx hb dX11_look_27 (by rw [c_27_7]; decide) (by rw [c_27_7]; decide) (by rw [c_27_7]; rfl) (by decide) ?_
                    exact k_m_look_b125 g C (sI st 0 (0 : Int32)) x1 H locs ls hI (lv_sub hl [0, 1] rfl) hO X hF
                  · have hF := hF.trans (if_neg c_27_7)
                    have hO := hO.2 c_27_7
                    by_cases c_27_8 : x1 = (8 : Int32)
                    · have hF := hF.trans (if_pos c_27_8)
                      have hO := hO.1 c_27_8
                      refine lv_tableIn (off := 98) (tgt := 125) hx hb dX11_look_27 (by rw [c_27_8]; decide) (by rw [c_27_8]; decide) (by rw [c_27_8]; rfl) (by decide) ?_
                      exact k_m_look_b125 g C (sI st 0 (0 : Int32)) x1 H locs ls hI (lv_sub hl [0, 1] rfl) hO X hF
                    · have hF := hF.trans (if_neg c_27_8)
                      have hO := hO.2 c_27_8
                      by_cases c_27_9 : x1 = (9 : Int32)
                      · have hF := hF.trans (if_pos c_27_9)
                        refine lv_tableIn (off := 108) (tgt := 135) hx hb dX11_look_27 (by rw [c_27_9]; decide) (by rw [c_27_9]; decide) (by rw [c_27_9]; rfl) (by decide) ?_
                        refine lv_aload_n hx hb dX11_look_135 rfl (lv_at hl 0 rfl) ?_
                        refine va_get (D := gD g) (ci := 11) (C := RX11) (T := TX11) (N := 50) (v := .int (gI st 18)) hx hb hts (fun w h => List.mem_cons_of_mem _ (isX110 w h)) hown hK hI.1 0 rfl rfl 35 (by decide) (hts _ (List.mem_cons_of_mem _ mw225)) (fun _ h9 => h9) rfl dX11_look_136 ?_
                        exact cx_iret C hI (congrArg Prod.fst hF) (congrArg Prod.snd hF) dX11_look_139
                      · have hF := hF.trans (if_neg c_27_9)
                        by_cases c_27_10 : x1 = (10 : Int32)
                        · have hF := hF.trans (if_pos c_27_10)
                          refine lv_tableIn (off := 113) (tgt := 140) hx hb dX11_look_27 (by rw [c_27_10]; decide) (by rw [c_27_10]; decide) (by rw [c_27_10]; rfl) (by decide) ?_
                          refine lv_aload_n hx hb dX11_look_140 rfl (lv_at hl 0 rfl) ?_
                          refine va_get (D := gD g) (ci := 11) (C := RX11) (T := TX11) (N := 50) (v := .int (gI st 15)) hx hb hts (fun w h => List.mem_cons_of_mem _ (isX110 w h)) hown hK hI.1 0 rfl rfl 32 (by decide) (hts _ (List.mem_cons_of_mem _ mw222)) (fun _ h9 => h9) rfl dX11_look_141 ?_
                          exact cx_iret C hI (congrArg Prod.fst hF) (congrArg Prod.snd hF) dX11_look_144
                        · have hF := hF.trans (if_neg c_27_10)
                          by_cases c_27_11 : x1 = (11 : Int32)
                          · have hF := hF.trans (if_pos c_27_11)
                            refine lv_tableIn (off := 118) (tgt := 145) hx hb dX11_look_27 (by rw [c_27_11]; decide) (by rw [c_27_11]; decide) (by rw [c_27_11]; rfl) (by decide) ?_
                            refine lv_sipush (v := (20000 : Int32)) hx hb dX11_look_145 (by decide) ?_
                            refine lv_aload_n hx hb dX11_look_148 rfl (lv_at hl 0 rfl) ?_
                            refine va_get (D := gD g) (ci := 11) (C := RX11) (T := TX11) (N := 50) (v := .long (gL st 0)) hx hb hts (fun w h => List.mem_cons_of_mem _ (isX110 w h)) hown hK hI.1 0 rfl rfl 21 (by decide) (hts _ (List.mem_cons_of_mem _ mw215)) (fun _ h9 => h9) rfl dX11_look_149 ?_
                            refine lv_ldc2 (v := (20000 : Int64)) hx hb hown (hts _ (List.mem_cons_of_mem _ mw927)) dX11_look_152 ?_
                            refine lv_lrem hx hb dX11_look_155 (by decide) ?_
                            refine lv_l2i (v := (((gL st 0) - (gL st 0) / (20000 : Int64) * (20000 : Int64)).toInt32)) hx hb dX11_look_156 rfl ?_
                            refine lv_isub hx hb dX11_look_157 ?_
                            exact cx_iret C hI (congrArg Prod.fst hF) (congrArg Prod.snd hF) dX11_look_158
                          · have hF := hF.trans (if_neg c_27_11)
                            by_cases c_27_12 : x1 = (12 : Int32)
                            · have hF := hF.trans (if_pos c_27_12)
                              refine lv_tableIn (off := 132) (tgt := 159) hx hb dX11_look_27 (by rw [c_27_12]; decide) (by rw [c_27_12]; decide) (by rw [c_27_12]; rfl) (by decide) ?_
                              refine lv_aload_n hx hb dX11_look_159 rfl (lv_at hl 0 rfl) ?_
                              refine cx_Vi (As := []) (rest := []) C (c_m_irqLine l g (sI st 0 (0 : Int32)) ) (cwV 0 hts (gd_V _ mw784 mw785 mw786 mw3 mw787) rfl rfl rfl yd_yX11_irqLine ⟨Nat.le_of_ble_eq_true rfl, Nat.le_of_ble_eq_true rfl⟩) (va_recv hK hI.1 (ci := 11) (q0 := 0) rfl rfl) hI rfl hl.1 rfl (Nat.le_of_ble_eq_true rfl) dX11_look_160 (fun H locs hI => ?_)
                              refine lv_if_eq (tgt := 170) hx hb dX11_look_163 (by decide) (fun c_163 => ?_) (fun c_163 => ?_)
                              · have hF := hF.trans (if_pos c_163)
                                refine lv_iconst (v := (0 : Int32)) hx hb dX11_look_170 (by decide) ?_
                                exact cx_iret C hI (congrArg Prod.fst hF) (congrArg Prod.snd hF) dX11_look_171
                              · have hF := hF.trans (if_neg c_163)
                                refine lv_iconst (v := (1 : Int32)) hx hb dX11_look_166 (by decide) ?_
                                refine lv_goto (tgt := 171) hx hb dX11_look_167 (by decide) ?_
                                exact cx_iret C hI (congrArg Prod.fst hF) (congrArg Prod.snd hF) dX11_look_171
                            · have hF := hF.trans (if_neg c_27_12)
                              by_cases c_27_13 : x1 = (13 : Int32)
                              · have hF := hF.trans (if_pos c_27_13)
                                refine lv_tableIn (off := 145) (tgt := 172) hx hb dX11_look_27 (by rw [c_27_13]; decide) (by rw [c_27_13]; decide) (by rw [c_27_13]; rfl) (by decide) ?_
                                refine lv_aload_n hx hb dX11_look_172 rfl (lv_at hl 0 rfl) ?_
                                refine cx_Vi (As := []) (rest := []) C (c_m_fiqLine l g (sI st 0 (0 : Int32)) ) (cwV 0 hts (gd_V _ mw753 mw754 mw755 mw3 mw756) rfl rfl rfl yd_yX11_fiqLine ⟨Nat.le_of_ble_eq_true rfl, Nat.le_of_ble_eq_true rfl⟩) (va_recv hK hI.1 (ci := 11) (q0 := 0) rfl rfl) hI rfl hl.1 rfl (Nat.le_of_ble_eq_true rfl) dX11_look_173 (fun H locs hI => ?_)
                                refine lv_if_eq (tgt := 183) hx hb dX11_look_176 (by decide) (fun c_176 => ?_) (fun c_176 => ?_)
                                · have hF := hF.trans (if_pos c_176)
                                  refine lv_iconst (v := (0 : Int32)) hx hb dX11_look_183 (by decide) ?_
                                  exact cx_iret C hI (congrArg Prod.fst hF) (congrArg Prod.snd hF) dX11_look_184
                                · have hF := hF.trans (if_neg c_176)
                                  refine lv_iconst (v := (1 : Int32)) hx hb dX11_look_179 (by decide) ?_
                                  refine lv_goto (tgt := 184) hx hb dX11_look_180 (by decide) ?_
                                  exact cx_iret C hI (congrArg Prod.fst hF) (congrArg Prod.snd hF) dX11_look_184
                              · have hF := hF.trans (if_neg c_27_13)
                                refine lv_tableOut (tgt := 185) hx hb dX11_look_27 (by have h0 := lv_neT (a := 0) c_27_0 (by decide); have h1 := lv_neT (a := 1) c_27_1 (by decide); have h2 := lv_neT (a := 2) c_27_2 (by decide); have h3 := lv_neT (a := 3) c_27_3 (by decide); have h4 := lv_neT (a := 4) c_27_4 (by decide); have h5 := lv_neT (a := 5) c_27_5 (by decide); have h6 := lv_neT (a := 6) c_27_6 (by decide); have h7 := lv_neT (a := 7) c_27_7 (by decide); have h8 := lv_neT (a := 8) c_27_8 (by decide); have h9 := lv_neT (a := 9) c_27_9 (by decide); have h10 := lv_neT (a := 10) c_27_10 (by decide); have h11 := lv_neT (a := 11) c_27_11 (by decide); have h12 := lv_neT (a := 12) c_27_12 (by decide); have h13 := lv_neT (a := 13) c_27_13 (by decide); omega) (by decide) ?_
                                refine lv_iconst (v := (-1 : Int32)) hx hb dX11_look_185 (by decide) ?_
                                exact cx_iret C hI (congrArg Prod.fst hF) (congrArg Prod.snd hF) dX11_look_186
  · have hF := hF.trans (if_neg c_13)
    have hO := hO.2 c_13
    refine lv_aload_n hx hb dX11_look_16 rfl (lv_at hl 0 rfl) ?_
    refine va_get (D := gD g) (ci := 11) (C := RX11) (T := TX11) (N := 50) (v := .ref (gad g 10)) hx hb hts (fun w h => List.mem_cons_of_mem _ (isX110 w h)) hown hK hI.1 0 rfl rfl 14 (by decide) (hts _ (List.mem_cons_of_mem _ mw194)) (fun _ h9 => h9) rfl dX11_look_17 ?_
    refine lv_iload_n hx hb dX11_look_20 rfl (lv_at hl 1 rfl) ?_
    refine lv_bipush (v := (16 : Int32)) hx hb dX11_look_21 (by decide) ?_
    refine lv_isub hx hb dX11_look_23 ?_
    have hq_24_0 := hO.1
    have hO := hO.2
    refine va_iald (f := (gA st 9)) hx hb hK hI.1 10 9 rfl rfl hq_24_0 dX11_look_24 ?_
    exact cx_iret C hI (congrArg Prod.fst hF) (congrArg Prod.snd hF) dX11_look_25
set_option maxHeartbeats 4000000 in
set_option maxRecDepth 100000 in
theorem c_m_look (l : Launch) (g : Gm) (st : CS) (x1 : Int32) (hO : o_m_look st x1) : Mi l yX11_look wq_X11_look rm_m_look (gD g) vwCl (mty g) (mw g) (mz g) [.ref (gad g 0), .int x1] st (m_look st x1).1 (m_look st x1).2 := by
  intro sz
  refine Met.ofW (cc := cX11_look) (maxL := 2) (ret := (some .int)) (by decide) rfl ?_
  intro p e s m args below meth c s₁ B hml hv
  obtain ⟨rfl, hsz, hP, hK, hD0, hZ⟩ := hv
  subst hsz
  have hl := lv_entry ([.ref (gad g 0), .int x1]) (n := 2) (Nat.le_of_ble_eq_true rfl)
  rw [lg_entry_eq]
  generalize (lg_sl ([.ref (gad g 0), .int x1]) ++ List.replicate (2 - (lg_sl ([.ref (gad g 0), .int x1])).length) Slot.unset).toArray = ls at hl ⊢
  exact k_m_look g ⟨B.exec, B.bytes, B.returns, hml, findClass_of_methodNamed B.named, atoms_spec (ws := wq_X11_look) B.pre, B.notSynchronized, hK, fun q h => Or.inr h, hZ, mz_ok g⟩ st x1 _ _ ls ⟨hP, hD0.self, va_S.rf⟩ hl hO _ rfl
abbrev wq_X11_place : List Cond := .code yX11_place cX11_place 3 (some .int) :: wAll
theorem yd_yX11_place : yX11_place.cls = RX11 ∧ yX11_place.cls ≠ "java/lang/invoke/MethodHandle" ∧ yX11_place.cls ≠ "java/lang/invoke/VarHandle" ∧ (parseMethodDescriptor yX11_place.desc).map (fun d => d.parameters.length) = some 2 := by decide +kernel
abbrev rm_m_place : Room := { frames := 1, cells := 0, slots := 0, locals := 22 }
def m_place (st : CS) (x1 : Int32) (x2 : Int32) : CS × Int32 := (if ((m_within x1 (0 : Int32) (63 : Int32)) = 0) then ((sI st 0 (0 : Int32)), (-1 : Int32)) else (if ((m_within x2 (0 : Int32) (31 : Int32)) = 0) then ((sI st 0 (0 : Int32)), (-1 : Int32)) else ((sI st 0 (0 : Int32)), ((gA st 11) (((64 : Int32) * x2) + x1).toNatClampNeg))))
def o_m_place (st : CS) (x1 : Int32) (x2 : Int32) : Prop := ((((m_within x1 (0 : Int32) (63 : Int32)) = 0) → True) ∧ (¬ ((m_within x1 (0 : Int32) (63 : Int32)) = 0) → ((((m_within x2 (0 : Int32) (31 : Int32)) = 0) → True) ∧ (¬ ((m_within x2 (0 : Int32) (31 : Int32)) = 0) → (vp_in (((64 : Int32) * x2) + x1) 2048 ∧ True)))))
set_option maxHeartbeats 4000000 in
set_option maxRecDepth 100000 in
theorem k_m_place {p : Program} {l : Launch} {e : Env} {s : State} {m : MethodId} {args : Array Value} {below : List Frame} {meth : Method} {c : Code} {A : Nat → Prop} (g : Gm) (C : cX p s m args meth c A cX11_place (some .int) 3 RX11 wq_X11_place (gD g) vwCl (mty g) (mz g)) (st : CS) (x1 : Int32) (x2 : Int32) (H : Heap) (locs : List Loc) (ls : Array Slot) (hI : cI (gD g) vwCl (mw g) A s st H locs) (hl : lv_has ls 3 [(0, .ref (gad g 0)), (1, .int x1), (2, .int x2)]) (hO : o_m_place st x1 x2) (X : CS × Int32) (hF : X = m_place st x1 x2) : W p l e rm_m_place s m args below meth c H locs 0 0 (MQ below (cQi (gD g) vwCl (mty g) (mw g) A X.1 X.2) args s 0 0 A) (F0 m 0 ls []) := by
  obtain ⟨hx, hb, hr, hml, hown, hts, hlocks, hK, hA, hZ, hzo⟩ := id C
  unfold m_place at hF
  unfold o_m_place at hO
  refine lv_aload_n hx hb dX11_place_0 rfl (lv_at hl 0 rfl) ?_
  refine lv_iconst (v := (0 : Int32)) hx hb dX11_place_1 (by decide) ?_
  refine va_put (D := gD g) (ci := 11) (C := RX11) (T := TX11) (N := 50) (v := .int (0 : Int32)) (ty := .int) hx hb hts (fun w h => List.mem_cons_of_mem _ (isX110 w h)) tyX11 tyX11_ok nmX11 hown hK hI.1 hI.2.1 hI.2.2 0 rfl rfl 0 (by decide) (hts _ (List.mem_cons_of_mem _ mw208)) (fun _ h9 => h9) rfl (by decide +kernel) rfl rfl (Nat.le_of_ble_eq_true rfl) dX11_place_2 (fun H locs hP hD hS => ?_)
  have hI : cI (gD g) vwCl (mw g) A s (sI st 0 (0 : Int32)) H locs := ⟨hP, hD, hS⟩
  refine lv_iload_n hx hb dX11_place_5 rfl (lv_at hl 1 rfl) ?_
  refine lv_iconst (v := (0 : Int32)) hx hb dX11_place_6 (by decide) ?_
  refine lv_bipush (v := (63 : Int32)) hx hb dX11_place_7 (by decide) ?_
  refine cx_Si (As := [.int x1, .int (0 : Int32), .int (63 : Int32)]) (rest := []) C (c_m_within l g (sI st 0 (0 : Int32)) x1 (0 : Int32) (63 : Int32)) (va_cwS 3 hts (gd_S _ mw238 mw239 mw3 mw240) rfl rfl rfl yd_yX11_within ⟨Nat.le_of_ble_eq_true rfl, Nat.le_of_ble_eq_true rfl⟩) hI rfl hl.1 rfl (Nat.le_of_ble_eq_true rfl) dX11_place_9 (fun H locs hI => ?_)
  refine lv_if_eq (tgt := 39) hx hb dX11_place_12 (by decide) (fun c_12 => ?_) (fun c_12 => ?_)
  · have hF := hF.trans (if_pos c_12)
    have hO := hO.1 c_12
    refine lv_iconst (v := (-1 : Int32)) hx hb dX11_place_39 (by decide) ?_
    exact cx_iret C hI (congrArg Prod.fst hF) (congrArg Prod.snd hF) dX11_place_40
  · have hF := hF.trans (if_neg c_12)
    have hO := hO.2 c_12
    refine lv_iload_n hx hb dX11_place_15 rfl (lv_at hl 2 rfl) ?_
    refine lv_iconst (v := (0 : Int32)) hx hb dX11_place_16 (by decide) ?_
    refine lv_bipush (v := (31 : Int32)) hx hb dX11_place_17 (by decide) ?_
    refine cx_Si (As := [.int x2, .int (0 : Int32), .int (31 : Int32)]) (rest := []) C (c_m_within l g (sI st 0 (0 : Int32)) x2 (0 : Int32) (31 : Int32)) (va_cwS 3 hts (gd_S _ mw238 mw239 mw3 mw240) rfl rfl rfl yd_yX11_within ⟨Nat.le_of_ble_eq_true rfl, Nat.le_of_ble_eq_true rfl⟩) hI rfl hl.1 rfl (Nat.le_of_ble_eq_true rfl) dX11_place_19 (fun H locs hI => ?_)
    refine lv_if_eq (tgt := 39) hx hb dX11_place_22 (by decide) (fun c_22 => ?_) (fun c_22 => ?_)
    · have hF := hF.trans (if_pos c_22)
      have hO := hO.1 c_22
      refine lv_iconst (v := (-1 : Int32)) hx hb dX11_place_39 (by decide) ?_
      exact cx_iret C hI (congrArg Prod.fst hF) (congrArg Prod.snd hF) dX11_place_40
    · have hF := hF.trans (if_neg c_22)
      have hO := hO.2 c_22
      refine lv_aload_n hx hb dX11_place_25 rfl (lv_at hl 0 rfl) ?_
      refine va_get (D := gD g) (ci := 11) (C := RX11) (T := TX11) (N := 50) (v := .ref (gad g 12)) hx hb hts (fun w h => List.mem_cons_of_mem _ (isX110 w h)) hown hK hI.1 0 rfl rfl 20 (by decide) (hts _ (List.mem_cons_of_mem _ mw196)) (fun _ h9 => h9) rfl dX11_place_26 ?_
      refine lv_bipush (v := (64 : Int32)) hx hb dX11_place_29 (by decide) ?_
      refine lv_iload_n hx hb dX11_place_31 rfl (lv_at hl 2 rfl) ?_
      refine lv_imul hx hb dX11_place_32 ?_
      refine lv_iload_n hx hb dX11_place_33 rfl (lv_at hl 1 rfl) ?_
      refine lv_iadd hx hb dX11_place_34 ?_
      have hq_35_0 := hO.1
      have hO := hO.2
      refine va_iald (f := (gA st 11)) hx hb hK hI.1 12 11 rfl rfl hq_35_0 dX11_place_35 ?_
      refine lv_goto (tgt := 40) hx hb dX11_place_36 (by decide) ?_
      exact cx_iret C hI (congrArg Prod.fst hF) (congrArg Prod.snd hF) dX11_place_40
set_option maxHeartbeats 4000000 in
set_option maxRecDepth 100000 in
theorem c_m_place (l : Launch) (g : Gm) (st : CS) (x1 : Int32) (x2 : Int32) (hO : o_m_place st x1 x2) : Mi l yX11_place wq_X11_place rm_m_place (gD g) vwCl (mty g) (mw g) (mz g) [.ref (gad g 0), .int x1, .int x2] st (m_place st x1 x2).1 (m_place st x1 x2).2 := by
  intro sz
  refine Met.ofW (cc := cX11_place) (maxL := 3) (ret := (some .int)) (by decide) rfl ?_
  intro p e s m args below meth c s₁ B hml hv
  obtain ⟨rfl, hsz, hP, hK, hD0, hZ⟩ := hv
  subst hsz
  have hl := lv_entry ([.ref (gad g 0), .int x1, .int x2]) (n := 3) (Nat.le_of_ble_eq_true rfl)
  rw [lg_entry_eq]
  generalize (lg_sl ([.ref (gad g 0), .int x1, .int x2]) ++ List.replicate (3 - (lg_sl ([.ref (gad g 0), .int x1, .int x2])).length) Slot.unset).toArray = ls at hl ⊢
  exact k_m_place g ⟨B.exec, B.bytes, B.returns, hml, findClass_of_methodNamed B.named, atoms_spec (ws := wq_X11_place) B.pre, B.notSynchronized, hK, fun q h => Or.inr h, hZ, mz_ok g⟩ st x1 x2 _ _ ls ⟨hP, hD0.self, va_S.rf⟩ hl hO _ rfl
abbrev wq_X11_letter : List Cond := .code yX11_letter cX11_letter 4 (some .int) :: wAll
theorem yd_yX11_letter : yX11_letter.cls = RX11 ∧ yX11_letter.cls ≠ "java/lang/invoke/MethodHandle" ∧ yX11_letter.cls ≠ "java/lang/invoke/VarHandle" ∧ (parseMethodDescriptor yX11_letter.desc).map (fun d => d.parameters.length) = some 1 := by decide +kernel
abbrev rm_m_letter : Room := { frames := 0, cells := 0, slots := 0, locals := 0 }
def m_letter_b28 (st : CS) (x1 : Int32) (y0 : Int64) : CS × Int32 := (if (x1 < 0) then (st, (-1 : Int32)) else (if (0 ≤ (lg_cmp (y0 + (x1.toInt64)) (gL st 1))) then (st, (-1 : Int32)) else (st, (((gA st 16) (((y0 + (x1.toInt64)) - (y0 + (x1.toInt64)) / (4000 : Int64) * (4000 : Int64)).toInt32).toNatClampNeg) &&& (255 : Int32)))))
def o_m_letter_b28 (st : CS) (x1 : Int32) (y0 : Int64) : Prop := (((x1 < 0) → True) ∧ (¬ (x1 < 0) → (((0 ≤ (lg_cmp (y0 + (x1.toInt64)) (gL st 1))) → True) ∧ (¬ (0 ≤ (lg_cmp (y0 + (x1.toInt64)) (gL st 1))) → (vp_in (((y0 + (x1.toInt64)) - (y0 + (x1.toInt64)) / (4000 : Int64) * (4000 : Int64)).toInt32) 4000 ∧ True)))))
set_option maxHeartbeats 4000000 in
set_option maxRecDepth 100000 in
theorem k_m_letter_b28 {p : Program} {l : Launch} {e : Env} {s : State} {m : MethodId} {args : Array Value} {below : List Frame} {meth : Method} {c : Code} {A : Nat → Prop} (g : Gm) (C : cX p s m args meth c A cX11_letter (some .int) 4 RX11 wq_X11_letter (gD g) vwCl (mty g) (mz g)) (st : CS) (x1 : Int32) (y0 : Int64) (H : Heap) (locs : List Loc) (ls : Array Slot) (hI : cI (gD g) vwCl (mw g) A s st H locs) (hl : lv_has ls 4 [(0, .ref (gad g 0)), (1, .int x1)]) (hO : o_m_letter_b28 st x1 y0) (X : CS × Int32) (hF : X = m_letter_b28 st x1 y0) : W p l e rm_m_letter s m args below meth c H locs 0 0 (MQ below (cQi (gD g) vwCl (mty g) (mw g) A X.1 X.2) args s 0 0 A) (F0 m 28 ls [.long y0]) := by
  obtain ⟨hx, hb, hr, hml, hown, hts, hlocks, hK, hA, hZ, hzo⟩ := id C
  unfold m_letter_b28 at hF
  unfold o_m_letter_b28 at hO
  refine lv_lstore_n (lv' := [(2, .long y0), (0, .ref (gad g 0)), (1, .int x1)]) hx hb dX11_letter_28 rfl hl (by decide) rfl (fun ls hl => ?_)
  refine lv_iload_n hx hb dX11_letter_29 rfl (lv_at hl 2 rfl) ?_
  refine lv_if_lt (tgt := 66) hx hb dX11_letter_30 (by decide) (fun c_30 => ?_) (fun c_30 => ?_)
  · have hF := hF.trans (if_pos c_30)
    have hO := hO.1 c_30
    refine lv_iconst (v := (-1 : Int32)) hx hb dX11_letter_66 (by decide) ?_
    exact cx_iret C hI (congrArg Prod.fst hF) (congrArg Prod.snd hF) dX11_letter_67
  · have hF := hF.trans (if_neg c_30)
    have hO := hO.2 c_30
    refine lv_lload_n hx hb dX11_letter_33 rfl (lv_at hl 0 rfl) ?_
    refine lv_iload_n hx hb dX11_letter_34 rfl (lv_at hl 2 rfl) ?_
    refine lv_i2l (v := (x1.toInt64)) hx hb dX11_letter_35 rfl ?_
    refine lv_ladd hx hb dX11_letter_36 ?_
    refine lv_aload_n hx hb dX11_letter_37 rfl (lv_at hl 1 rfl) ?_
    refine va_get (D := gD g) (ci := 11) (C := RX11) (T := TX11) (N := 50) (v := .long (gL st 1)) hx hb hts (fun w h => List.mem_cons_of_mem _ (isX110 w h)) hown hK hI.1 0 rfl rfl 42 (by decide) (hts _ (List.mem_cons_of_mem _ mw899)) (fun _ h9 => h9) rfl dX11_letter_38 ?_
    refine W.lcmp hx hb dX11_letter_41 ?_
    refine lv_if_ge (tgt := 66) hx hb dX11_letter_42 (by decide) (fun c_42 => ?_) (fun c_42 => ?_)
    · have hF := hF.trans (if_pos c_42)
      have hO := hO.1 c_42
      refine lv_iconst (v := (-1 : Int32)) hx hb dX11_letter_66 (by decide) ?_
      exact cx_iret C hI (congrArg Prod.fst hF) (congrArg Prod.snd hF) dX11_letter_67
    · have hF := hF.trans (if_neg c_42)
      have hO := hO.2 c_42
      refine lv_aload_n hx hb dX11_letter_45 rfl (lv_at hl 1 rfl) ?_
      refine va_get (D := gD g) (ci := 11) (C := RX11) (T := TX11) (N := 50) (v := .ref (gad g 17)) hx hb hts (fun w h => List.mem_cons_of_mem _ (isX110 w h)) hown hK hI.1 0 rfl rfl 41 (by decide) (hts _ (List.mem_cons_of_mem _ mw201)) (fun _ h9 => h9) rfl dX11_letter_46 ?_
      refine lv_lload_n hx hb dX11_letter_49 rfl (lv_at hl 0 rfl) ?_
      refine lv_iload_n hx hb dX11_letter_50 rfl (lv_at hl 2 rfl) ?_
      refine lv_i2l (v := (x1.toInt64)) hx hb dX11_letter_51 rfl ?_
      refine lv_ladd hx hb dX11_letter_52 ?_
      refine lv_ldc2 (v := (4000 : Int64)) hx hb hown (hts _ (List.mem_cons_of_mem _ mw900)) dX11_letter_53 ?_
      refine lv_lrem hx hb dX11_letter_56 (by decide) ?_
      refine lv_l2i (v := (((y0 + (x1.toInt64)) - (y0 + (x1.toInt64)) / (4000 : Int64) * (4000 : Int64)).toInt32)) hx hb dX11_letter_57 rfl ?_
      have hq_58_0 := hO.1
      have hO := hO.2
      refine va_bald (f := (gA st 16)) hx hb hK hI.1 17 16 rfl rfl hq_58_0 dX11_letter_58 ?_
      refine lv_sipush (v := (255 : Int32)) hx hb dX11_letter_59 (by decide) ?_
      refine lv_iand hx hb dX11_letter_62 ?_
      refine lv_goto (tgt := 67) hx hb dX11_letter_63 (by decide) ?_
      exact cx_iret C hI (congrArg Prod.fst hF) (congrArg Prod.snd hF) dX11_letter_67
def m_letter (st : CS) (x1 : Int32) : CS × Int32 := (if ((lg_cmp (gL st 1) (4000 : Int64)) ≤ 0) then (m_letter_b28 (sI st 0 (0 : Int32)) x1 (0 : Int64)) else (m_letter_b28 (sI st 0 (0 : Int32)) x1 ((gL st 1) - (4000 : Int64))))
def o_m_letter (st : CS) (x1 : Int32) : Prop := ((((lg_cmp (gL st 1) (4000 : Int64)) ≤ 0) → (o_m_letter_b28 (sI st 0 (0 : Int32)) x1 (0 : Int64))) ∧ (¬ ((lg_cmp (gL st 1) (4000 : Int64)) ≤ 0) → (o_m_letter_b28 (sI st 0 (0 : Int32)) x1 ((gL st 1) - (4000 : Int64)))))
set_option maxHeartbeats 4000000 in
set_option maxRecDepth 100000 in
theorem k_m_letter {p : Program} {l : Launch} {e : Env} {s : State} {m : MethodId} {args : Array Value} {below : List Frame} {meth : Method} {c : Code} {A : Nat → Prop} (g : Gm) (C : cX p s m args meth c A cX11_letter (some .int) 4 RX11 wq_X11_letter (gD g) vwCl (mty g) (mz g)) (st : CS) (x1 : Int32) (H : Heap) (locs : List Loc) (ls : Array Slot) (hI : cI (gD g) vwCl (mw g) A s st H locs) (hl : lv_has ls 4 [(0, .ref (gad g 0)), (1, .int x1)]) (hO : o_m_letter st x1) (X : CS × Int32) (hF : X = m_letter st x1) : W p l e rm_m_letter s m args below meth c H locs 0 0 (MQ below (cQi (gD g) vwCl (mty g) (mw g) A X.1 X.2) args s 0 0 A) (F0 m 0 ls []) := by
  obtain ⟨hx, hb, hr, hml, hown, hts, hlocks, hK, hA, hZ, hzo⟩ := id C
  unfold m_letter at hF
  unfold o_m_letter at hO
  refine lv_aload_n hx hb dX11_letter_0 rfl (lv_at hl 0 rfl) ?_
  refine lv_iconst (v := (0 : Int32)) hx hb dX11_letter_1 (by decide) ?_
  refine va_put (D := gD g) (ci := 11) (C := RX11) (T := TX11) (N := 50) (v := .int (0 : Int32)) (ty := .int) hx hb hts (fun w h => List.mem_cons_of_mem _ (isX110 w h)) tyX11 tyX11_ok nmX11 hown hK hI.1 hI.2.1 hI.2.2 0 rfl rfl 0 (by decide) (hts _ (List.mem_cons_of_mem _ mw208)) (fun _ h9 => h9) rfl (by decide +kernel) rfl rfl (Nat.le_of_ble_eq_true rfl) dX11_letter_2 (fun H locs hP hD hS => ?_)
  have hI : cI (gD g) vwCl (mw g) A s (sI st 0 (0 : Int32)) H locs := ⟨hP, hD, hS⟩
  refine lv_aload_n hx hb dX11_letter_5 rfl (lv_at hl 0 rfl) ?_
  refine va_get (D := gD g) (ci := 11) (C := RX11) (T := TX11) (N := 50) (v := .long (gL st 1)) hx hb hts (fun w h => List.mem_cons_of_mem _ (isX110 w h)) hown hK hI.1 0 rfl rfl 42 (by decide) (hts _ (List.mem_cons_of_mem _ mw899)) (fun _ h9 => h9) rfl dX11_letter_6 ?_
  refine lv_ldc2 (v := (4000 : Int64)) hx hb hown (hts _ (List.mem_cons_of_mem _ mw900)) dX11_letter_9 ?_
  refine W.lcmp hx hb dX11_letter_12 ?_
  refine lv_if_le (tgt := 27) hx hb dX11_letter_13 (by decide) (fun c_13 => ?_) (fun c_13 => ?_)
  · have hF := hF.trans (if_pos c_13)
    have hO := hO.1 c_13
    refine lv_lconst (v := (0 : Int64)) hx hb dX11_letter_27 (by decide) ?_
    exact k_m_letter_b28 g C (sI st 0 (0 : Int32)) x1 (0 : Int64) H locs ls hI (lv_sub hl [0, 1] rfl) hO X hF
  · have hF := hF.trans (if_neg c_13)
    have hO := hO.2 c_13
    refine lv_aload_n hx hb dX11_letter_16 rfl (lv_at hl 0 rfl) ?_
    refine va_get (D := gD g) (ci := 11) (C := RX11) (T := TX11) (N := 50) (v := .long (gL st 1)) hx hb hts (fun w h => List.mem_cons_of_mem _ (isX110 w h)) hown hK hI.1 0 rfl rfl 42 (by decide) (hts _ (List.mem_cons_of_mem _ mw899)) (fun _ h9 => h9) rfl dX11_letter_17 ?_
    refine lv_ldc2 (v := (4000 : Int64)) hx hb hown (hts _ (List.mem_cons_of_mem _ mw900)) dX11_letter_20 ?_
    refine lv_lsub hx hb dX11_letter_23 ?_
    refine lv_goto (tgt := 28) hx hb dX11_letter_24 (by decide) ?_
    exact k_m_letter_b28 g C (sI st 0 (0 : Int32)) x1 ((gL st 1) - (4000 : Int64)) H locs ls hI (lv_sub hl [0, 1] rfl) hO X hF
set_option maxHeartbeats 4000000 in
set_option maxRecDepth 100000 in
theorem c_m_letter (l : Launch) (g : Gm) (st : CS) (x1 : Int32) (hO : o_m_letter st x1) : Mi l yX11_letter wq_X11_letter rm_m_letter (gD g) vwCl (mty g) (mw g) (mz g) [.ref (gad g 0), .int x1] st (m_letter st x1).1 (m_letter st x1).2 := by
  intro sz
  refine Met.ofW (cc := cX11_letter) (maxL := 4) (ret := (some .int)) (by decide) rfl ?_
  intro p e s m args below meth c s₁ B hml hv
  obtain ⟨rfl, hsz, hP, hK, hD0, hZ⟩ := hv
  subst hsz
  have hl := lv_entry ([.ref (gad g 0), .int x1]) (n := 4) (Nat.le_of_ble_eq_true rfl)
  rw [lg_entry_eq]
  generalize (lg_sl ([.ref (gad g 0), .int x1]) ++ List.replicate (4 - (lg_sl ([.ref (gad g 0), .int x1])).length) Slot.unset).toArray = ls at hl ⊢
  exact k_m_letter g ⟨B.exec, B.bytes, B.returns, hml, findClass_of_methodNamed B.named, atoms_spec (ws := wq_X11_letter) B.pre, B.notSynchronized, hK, fun q h => Or.inr h, hZ, mz_ok g⟩ st x1 _ _ ls ⟨hP, hD0.self, va_S.rf⟩ hl hO _ rfl
