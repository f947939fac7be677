/-! THROWING METHODS: words, the throw's own premises, contracts that return or throw -/
def wX0 : List Cond := (vx_atS RX10 97 "java/lang/IndexOutOfBoundsException" ["java/lang/RuntimeException", "java/lang/Exception"]).filter goodWord
def wX1 : List Cond := (vx_atS RX10 122 "java/lang/IllegalArgumentException" ["java/lang/RuntimeException", "java/lang/Exception"]).filter goodWord
def wAX : List Cond := wAll ++ (wX0 ++ wX1)
theorem wX0_in {w : Cond} (h : w ∈ wX0) : w ∈ wAX := List.mem_append_right _ (List.mem_append_left _ h)
theorem wX1_in {w : Cond} (h : w ∈ wX1) : w ∈ wAX := List.mem_append_right _ (List.mem_append_right _ h)
theorem wAll_in {w : Cond} (h : w ∈ wAll) : w ∈ wAX := List.mem_append_left _ h
theorem wAX_ok : ∀ w ∈ wAX, ((w.onTables && w.keeps) = true ∨ ∃ ty, w = .arrayClass ty) := by
  intro w h
  rcases List.mem_append.mp h with h | h
  · exact wAll_ok w h
  · rcases List.mem_append.mp h with h | h
    · exact good_of_word (List.mem_filter.mp h).2
    · exact good_of_word (List.mem_filter.mp h).2
/-- what a throw of E needs beside the words: the launch has no traces, Throwable's two statics, the text, four words of the tables -/
def tP (E : String) (is : Nat) (text : String) (A : Nat → Prop) (U : State) (H : Heap) : Prop :=
  vx_Zq Bundle.tN "UNASSIGNED_STACK" Bundle.steD A U H ∧ vx_Zq Bundle.tN "SUPPRESSED_SENTINEL" Bundle.listD A U H ∧ (∃ sa : Nat, vk_R RX10 is text sa U) ∧
  va_Nw (.declares (Bundle.initS "java/lang/RuntimeException")) U ∧ va_Nw (.declares (Bundle.initS "java/lang/Exception")) U ∧ va_Nw (.declares (Bundle.initS Bundle.tN)) U ∧ va_Nw (.castable E E) U
theorem tP.warm {E : String} {is : Nat} {text : String} {A B : Nat → Prop} {s U : State} {H H1 : Heap} (hW : s.WarmedH U.vm) (hq : ∀ a : Nat, a < H.size → ¬ A a → H1[a]? = H[a]?) (hAB : ∀ q, B q → A q) (h : tP E is text A s H) : tP E is text B U H1 := by
  obtain ⟨h1, h2, ⟨sa, h3⟩, h4, h5, h6, h7⟩ := h
  exact ⟨((h1.moved hW.alike).kept hq).narrow hAB, ((h2.moved hW.alike).kept hq).narrow hAB, ⟨sa, h3.warm hW⟩, va_Nw.warmD hW h4, va_Nw.warmD hW h5, va_Nw.warmD hW h6, va_Nw.warmC hW h7⟩
theorem tP.same {E : String} {is : Nat} {text : String} {A : Nat → Prop} {s U : State} {H : Heap} (hv : s.vm = U.vm) (ha : s.vm.Alike U.vm) (h : tP E is text A s H) : tP E is text A U H := by
  obtain ⟨h1, h2, ⟨sa, h3⟩, h4, h5, h6, h7⟩ := h
  exact ⟨h1.moved ha, h2.moved ha, ⟨sa, h3.same hv.symm⟩, h4.same rfl hv, h5.same rfl hv, h6.same rfl hv, h7.same rfl hv⟩
section Thr
variable {p : Program} {l : Launch} {e : Env} {R : Room} {s : State} {m : MethodId} {args : Array Value} {below : List Frame} {meth : Method} {c : Code} {H : Heap} {locs : List Loc}
variable {cc : ByteArray} {pc : Nat} {ls : Array Slot} {rest : List Value}
variable {D : va_G} {cl : List vw_C} {ty : List (ClassId × FieldType)} {w : CS → va_W} {Z : zT} {A : Nat → Prop} {st : CS} {Ts : List Cond} {ret : Option FieldType} {maxL : Nat} {own : String}
abbrev xQ (D : va_G) (cl : List vw_C) (ty : List (ClassId × FieldType)) (w : CS → va_W) (A : Nat → Prop) (X : Option (CS × Int32)) := va_Qi (fun (r : Int32) (u : CS) => X = some (u, r)) (fun u t => cB D cl ty w A u t) A
abbrev xX (E : String) (D : va_G) (cl : List vw_C) (ty : List (ClassId × FieldType)) (w : CS → va_W) (A : Nat → Prop) (st : CS) (X : Option (CS × Int32)) := vx_X (fun (_ : Unit) => X = none) (fun E' _ t => E' = E ∧ cB D cl ty w A st t) A
/-- the start of a contract that may throw -/
def xP (E : String) (is : Nat) (text : String) (D : va_G) (cl : List vw_C) (ty : List (ClassId × FieldType)) (w : CS → va_W) (Z : zT) (sz : Nat) (st : CS) (U : State) : Prop := cP D cl ty w Z sz st U ∧ tP E is text (va_A (w st) sz) U U.heap
def Mx (E : String) (is : Nat) (text : String) (l : Launch) (y : MethodName) (ws : List Cond) (rm : Room) (D : va_G) (cl : List vw_C) (ty : List (ClassId × FieldType)) (w : CS → va_W) (Z : zT) (av : List Value) (st : CS) (X : Option (CS × Int32)) : Prop :=
  ∀ sz : Nat, vx_Met l y ws rm (va_Pc av (xP E is text D cl ty w Z sz st)) (xQ D cl ty w (va_A (w st) sz) X) (xX E D cl ty w (va_A (w st) sz) st X) 1 6 (va_A (w st) sz)
theorem W_mono {g : JFrame} {cells slots : Nat} {Q Q' : State → Prop} (h : ∀ t, Q t → Q' t) (k : W p l e R s m args below meth c H locs cells slots Q g) : W p l e R s m args below meth c H locs cells slots Q' g := by
  intro T hT X
  obtain ⟨t, a, b⟩ := k T hT X
  exact ⟨t, a, h t b⟩
theorem thr_ok {g : JFrame} {X : Option (CS × Int32)} {Y : CS × Int32} {E : String} (hX : X = some Y) (k : W p l e R s m args below meth c H locs 0 0 (MQ below (cQi D cl ty w A Y.1 Y.2) args s 0 0 A) g) :
    W p l e R s m args below meth c H locs 0 0 (vx_MQ below (xQ D cl ty w A X) (xX E D cl ty w A st X) args s 1 6 A) g := by
  refine vx_ret (W_mono ?_ k)
  rintro t ⟨o, h1, h2, ⟨⟨r, u, h3, h4, h5⟩, h6⟩, L, ⟨f1, f2, f3⟩, h8⟩
  subst h4
  exact ⟨o, h1, h2, ⟨⟨_, Y.1, h3, hX, h5⟩, h6⟩, L, ⟨f1, f2, f3.mono (Nat.zero_le _) (Nat.zero_le _)⟩, h8⟩
theorem thr_x {X : Option (CS × Int32)} {E : String} (hK : va_K D cl ty s) (hI : cI D cl w A s st H locs) (hX : X = none) : ∀ t : State, s.vm.Alike t.vm → H.size ≤ t.heap.size → (∀ q : Nat, q < H.size → t.heap[q]? = H[q]?) → xX E D cl ty w A st X E s t := by
  intro t hvm hsz hq
  refine ⟨(), hX, ⟨rfl, hI.1.kept (fun k q hk => hq q.1 (hI.1 k q hk).lt), va_K.moved hvm hK, hI.2.1⟩, Nat.le_trans hI.2.2.1 hsz, fun q h1 h2 => ?_⟩
  rw [hq q (Nat.lt_of_lt_of_le h1 hI.2.2.1)]
  exact hI.2.2.2.1 q h1 h2
end Thr
theorem nog0 : ∀ w ∈ (vx_atS RX10 97 "java/lang/IndexOutOfBoundsException" ["java/lang/RuntimeException", "java/lang/Exception"]).filter (fun w => !goodWord w), w ∈ ([.declares (Bundle.initS "java/lang/RuntimeException"), .declares (Bundle.initS "java/lang/Exception"), .declares (Bundle.initS Bundle.tN), .castable "java/lang/IndexOutOfBoundsException" "java/lang/IndexOutOfBoundsException"] : List Cond) := by decide +kernel
theorem nog1 : ∀ w ∈ (vx_atS RX10 122 "java/lang/IllegalArgumentException" ["java/lang/RuntimeException", "java/lang/Exception"]).filter (fun w => !goodWord w), w ∈ ([.declares (Bundle.initS "java/lang/RuntimeException"), .declares (Bundle.initS "java/lang/Exception"), .declares (Bundle.initS Bundle.tN), .castable "java/lang/IllegalArgumentException" "java/lang/IllegalArgumentException"] : List Cond) := by decide +kernel

theorem ot0a : ∀ w ∈ vx_atS RX10 97 "java/lang/IndexOutOfBoundsException" ["java/lang/RuntimeException", "java/lang/Exception"], vx_ot w = true := by decide +kernel
set_option maxHeartbeats 4000000 in
theorem thr0 {p : Program} {l : Launch} {e : Env} {R : Room} {s : State} {m : MethodId} {args : Array Value} {below : List Frame} {meth : Method} {c : Code} {H : Heap} {locs : List Loc} {cc : ByteArray} {pc : Nat} {ls : Array Slot} {A : Nat → Prop} {st : CS} {ret : Option FieldType} {maxL : Nat} {c1 : Cond} {D : va_G} {ty : List (ClassId × FieldType)} {w : CS → va_W} {Z : zT} {X : Option (CS × Int32)} {is ik : Nat} {text : String}
    (hl : l.stackTraces = false) (Cx : cX p s m args meth c A cc ret maxL RX10 (c1 :: wAX) D vwCl ty Z) (hno : ∀ x ∈ c.exceptionTable.toList, False) (hT : tP "java/lang/IndexOutOfBoundsException" is text A s s.heap) (hI : cI D vwCl w A s st H locs) (hX : X = none) (hsz : ls.size = maxL)
    (hk : Cond.classLink RX10 ik "java/lang/IndexOutOfBoundsException" ∈ wAll)
    (d0 : decode cc pc = .ok (.new ik, 3)) (d3 : decode cc (pc + 3) = .ok (.dup, 1)) (d4 : decode cc (pc + 4) = .ok (.ldc is, 2)) (d6 : decode cc (pc + 6) = .ok (.invokespecial 97, 3)) (d9 : decode cc (pc + 9) = .ok (.athrow, 1))
    (hRf : 5 < R.frames) (hRl : 82 ≤ R.locals) (hRc : 1 ≤ R.cells) (hRs : 6 ≤ R.slots) :
    W p l e R s m args below meth c H locs 0 0 (vx_MQ below (xQ D vwCl ty w A X) (xX "java/lang/IndexOutOfBoundsException" D vwCl ty w A st X) args s 1 6 A) (F0 m pc ls []) := by
  obtain ⟨hx, hb, hr, hml, hown, hts, hlocks, hK, hA, hZ, hzo⟩ := Cx
  obtain ⟨hU, hN, ⟨sa, hstr⟩, n1, n2, n3, n4⟩ := hT
  refine vx_throwS (names := ["java/lang/RuntimeException", "java/lang/Exception"]) hx hb hl hown (by decide +kernel) (by decide +kernel) (hts _ (List.mem_cons_of_mem _ (wAll_in hk))) (hts _ (List.mem_cons_of_mem _ (wAll_in mw245))) hstr ?_ ?_ hU hN hI.2.2 (hsz.trans hml.symm) d0 d3 d4 d6 d9 (fun x h => absurd h (fun h => hno x h)) hRf hRl (by omega) (by omega) hlocks (thr_x hK hI hX) hI.2.2.2.2 (Nat.le_refl _) (Nat.le_refl _)
  · exact vx_hat (fun w h => hts w (List.mem_cons_of_mem _ (wX0_in h))) nog0 (vx_c (n1.use rfl) (vx_c (n2.use rfl) (vx_c (n3.use rfl) (vx_c (n4.use rfl) vx_n))))
  · intro w h
    rcases List.mem_cons.mp h with rfl | h
    · rfl
    · rcases List.mem_cons.mp h with rfl | h
      · rfl
      · exact ot0a w h
theorem ot1a : ∀ w ∈ vx_atS RX10 122 "java/lang/IllegalArgumentException" ["java/lang/RuntimeException", "java/lang/Exception"], vx_ot w = true := by decide +kernel
set_option maxHeartbeats 4000000 in
theorem thr1 {p : Program} {l : Launch} {e : Env} {R : Room} {s : State} {m : MethodId} {args : Array Value} {below : List Frame} {meth : Method} {c : Code} {H : Heap} {locs : List Loc} {cc : ByteArray} {pc : Nat} {ls : Array Slot} {A : Nat → Prop} {st : CS} {ret : Option FieldType} {maxL : Nat} {c1 : Cond} {D : va_G} {ty : List (ClassId × FieldType)} {w : CS → va_W} {Z : zT} {X : Option (CS × Int32)} {is ik : Nat} {text : String}
    (hl : l.stackTraces = false) (Cx : cX p s m args meth c A cc ret maxL RX10 (c1 :: wAX) D vwCl ty Z) (hno : ∀ x ∈ c.exceptionTable.toList, False) (hT : tP "java/lang/IllegalArgumentException" is text A s s.heap) (hI : cI D vwCl w A s st H locs) (hX : X = none) (hsz : ls.size = maxL)
    (hk : Cond.classLink RX10 ik "java/lang/IllegalArgumentException" ∈ wAll)
    (d0 : decode cc pc = .ok (.new ik, 3)) (d3 : decode cc (pc + 3) = .ok (.dup, 1)) (d4 : decode cc (pc + 4) = .ok (.ldc is, 2)) (d6 : decode cc (pc + 6) = .ok (.invokespecial 122, 3)) (d9 : decode cc (pc + 9) = .ok (.athrow, 1))
    (hRf : 5 < R.frames) (hRl : 82 ≤ R.locals) (hRc : 1 ≤ R.cells) (hRs : 6 ≤ R.slots) :
    W p l e R s m args below meth c H locs 0 0 (vx_MQ below (xQ D vwCl ty w A X) (xX "java/lang/IllegalArgumentException" D vwCl ty w A st X) args s 1 6 A) (F0 m pc ls []) := by
  obtain ⟨hx, hb, hr, hml, hown, hts, hlocks, hK, hA, hZ, hzo⟩ := Cx
  obtain ⟨hU, hN, ⟨sa, hstr⟩, n1, n2, n3, n4⟩ := hT
  refine vx_throwS (names := ["java/lang/RuntimeException", "java/lang/Exception"]) hx hb hl hown (by decide +kernel) (by decide +kernel) (hts _ (List.mem_cons_of_mem _ (wAll_in hk))) (hts _ (List.mem_cons_of_mem _ (wAll_in mw297))) hstr ?_ ?_ hU hN hI.2.2 (hsz.trans hml.symm) d0 d3 d4 d6 d9 (fun x h => absurd h (fun h => hno x h)) hRf hRl (by omega) (by omega) hlocks (thr_x hK hI hX) hI.2.2.2.2 (Nat.le_refl _) (Nat.le_refl _)
  · exact vx_hat (fun w h => hts w (List.mem_cons_of_mem _ (wX1_in h))) nog1 (vx_c (n1.use rfl) (vx_c (n2.use rfl) (vx_c (n3.use rfl) (vx_c (n4.use rfl) vx_n))))
  · intro w h
    rcases List.mem_cons.mp h with rfl | h
    · rfl
    · rcases List.mem_cons.mp h with rfl | h
      · rfl
      · exact ot1a w h
abbrev wq_X10_peek : List Cond := .code yX10_peek cX10_peek 2 (some .int) :: wAll
abbrev wqx_X10_peek : List Cond := .code yX10_peek cX10_peek 2 (some .int) :: wAX
theorem yd_yX10_peek : yX10_peek.cls = RX10 ∧ yX10_peek.cls ≠ "java/lang/invoke/MethodHandle" ∧ yX10_peek.cls ≠ "java/lang/invoke/VarHandle" ∧ (parseMethodDescriptor yX10_peek.desc).map (fun d => d.parameters.length) = some 1 := by decide +kernel
abbrev rm_cPageBoard_peek : Room := { frames := 6, cells := 1, slots := 6, locals := 82 }
def cPageBoard_peek_b21 (st : CS) (x1 : Int32) : Int32 := ((gA st 0) x1.toNatClampNeg)
set_option maxHeartbeats 4000000 in
set_option maxRecDepth 100000 in
theorem k_cPageBoard_peek_b21 {p : Program} {l : Launch} {e : Env} {s : State} {m : MethodId} {args : Array Value} {below : List Frame} {meth : Method} {c : Code} {A : Nat → Prop} (g : Gm) (C : cX p s m args meth c A cX10_peek (some .int) 2 RX10 wq_X10_peek (gD g) vwCl (cty g) (cz g)) (st : CS) (x1 : Int32) (H : Heap) (locs : List Loc) (ls : Array Slot) (hI : cI (gD g) vwCl (cw g) A s st H locs) (hl : lv_has ls 2 [(0, .ref (gad g 0)), (1, .int x1)]) (hv : vp_in x1 16384) (X : Int32) (hF : X = cPageBoard_peek_b21 st x1) : W p l e rm_cPageBoard_peek s m args below meth c H locs 0 0 (MQ below (cQi (gD g) vwCl (cty g) (cw g) A st X) args s 0 0 A) (F0 m 21 ls []) := by
  obtain ⟨hx, hb, hr, hml, hown, hts, hlocks, hK, hA, hZ, hzo⟩ := id C
  unfold cPageBoard_peek_b21 at hF
  refine lv_aload_n hx hb dX10_peek_21 rfl (lv_at hl 0 rfl) ?_
  refine va_get (D := gD g) (ci := 10) (C := RX10) (T := TX10) (N := 13) (v := .ref (gad g 1)) hx hb hts (fun w h => List.mem_cons_of_mem _ (isX100 w h)) hown hK hI.1 0 rfl rfl 0 (by decide) (hts _ (List.mem_cons_of_mem _ mw11)) (fun _ h9 => h9) rfl dX10_peek_22 ?_
  refine lv_iload_n hx hb dX10_peek_25 rfl (lv_at hl 1 rfl) ?_
  refine va_iald (f := (gA st 0)) hx hb hK hI.1 1 0 rfl rfl hv dX10_peek_26 ?_
  exact cx_iret C hI rfl hF dX10_peek_27
def cPageBoard_peek (st : CS) (x1 : Int32) : Option (CS × Int32) := (if (x1 < 0) then none else (if (x1 < (16384 : Int32)) then (some (st, (cPageBoard_peek_b21 st x1))) else none))
set_option maxHeartbeats 4000000 in
set_option maxRecDepth 100000 in
theorem k_cPageBoard_peek {p : Program} {l : Launch} {e : Env} {s : State} {m : MethodId} {args : Array Value} {below : List Frame} {meth : Method} {c : Code} {A : Nat → Prop} (g : Gm) (CX : cX p s m args meth c A cX10_peek (some .int) 2 RX10 wqx_X10_peek (gD g) vwCl (cty g) (cz g)) (hl0 : l.stackTraces = false) (hno : ∀ x ∈ c.exceptionTable.toList, False) (hT : tP "java/lang/IndexOutOfBoundsException" 95 "no such word of MEMORY" A s s.heap) (st : CS) (x1 : Int32) (H : Heap) (locs : List Loc) (ls : Array Slot) (hI : cI (gD g) vwCl (cw g) A s st H locs) (hl : lv_has ls 2 [(0, .ref (gad g 0)), (1, .int x1)]) (X : Option (CS × Int32)) (hF : X = cPageBoard_peek st x1) : W p l e rm_cPageBoard_peek s m args below meth c H locs 0 0 (vx_MQ below (xQ (gD g) vwCl (cty g) (cw g) A X) (xX "java/lang/IndexOutOfBoundsException" (gD g) vwCl (cty g) (cw g) A st X) args s 1 6 A) (F0 m 0 ls []) := by
  obtain ⟨hx, hb, hr, hml, hown, htsX, hlocks, hK, hA, hZ, hzo⟩ := id CX
  have hts : ∀ w ∈ wq_X10_peek, w.before args s = true := fun w h => htsX w ((List.mem_cons.mp h).elim (fun q => List.mem_cons.mpr (Or.inl q)) (fun q => List.mem_cons_of_mem _ (wAll_in q)))
  have C : cX p s m args meth c A cX10_peek (some .int) 2 RX10 wq_X10_peek (gD g) vwCl (cty g) (cz g) := ⟨hx, hb, hr, hml, hown, hts, hlocks, hK, hA, hZ, hzo⟩
  unfold cPageBoard_peek at hF
  refine lv_iload_n hx hb dX10_peek_0 rfl (lv_at hl 1 rfl) ?_
  refine lv_if_lt (tgt := 11) hx hb dX10_peek_1 (by decide) (fun c_1 => ?_) (fun c_1 => ?_)
  · have hF := hF.trans (if_pos c_1)
    exact thr0 hl0 CX hno hT hI hF hl.1 mw244 dX10_peek_11 dX10_peek_14 dX10_peek_15 dX10_peek_17 dX10_peek_20 (Nat.le_of_ble_eq_true rfl) (Nat.le_of_ble_eq_true rfl) (Nat.le_of_ble_eq_true rfl) (Nat.le_of_ble_eq_true rfl)
  · have hF := hF.trans (if_neg c_1)
    refine lv_iload_n hx hb dX10_peek_4 rfl (lv_at hl 1 rfl) ?_
    refine lv_sipush (v := (16384 : Int32)) hx hb dX10_peek_5 (by decide) ?_
    refine lv_icmp_lt (tgt := 21) hx hb dX10_peek_8 (by decide) (fun c_8 => ?_) (fun c_8 => ?_)
    · have hF := hF.trans (if_pos c_8)
      exact thr_ok hF (k_cPageBoard_peek_b21 g C st x1 H locs ls hI (lv_sub hl [0, 1] rfl) (vin_lt (by decide) rfl c_1 c_8) _ rfl)
    · have hF := hF.trans (if_neg c_8)
      exact thr0 hl0 CX hno hT hI hF hl.1 mw244 dX10_peek_11 dX10_peek_14 dX10_peek_15 dX10_peek_17 dX10_peek_20 (Nat.le_of_ble_eq_true rfl) (Nat.le_of_ble_eq_true rfl) (Nat.le_of_ble_eq_true rfl) (Nat.le_of_ble_eq_true rfl)
set_option maxHeartbeats 4000000 in
set_option maxRecDepth 100000 in
theorem c_cPageBoard_peek (l : Launch) (hl0 : l.stackTraces = false) (g : Gm) (st : CS) (x1 : Int32) : Mx "java/lang/IndexOutOfBoundsException" 95 "no such word of MEMORY" l yX10_peek wqx_X10_peek rm_cPageBoard_peek (gD g) vwCl (cty g) (cw g) (cz g) [.ref (gad g 0), .int x1] st (cPageBoard_peek st x1) := by
  intro sz
  refine vx_ofW (cc := cX10_peek) (maxL := 2) (ret := (some .int)) (by decide) rfl ?_
  intro p e s m args below meth c s₁ B hml hno hv
  obtain ⟨rfl, ⟨hsz, hP, hK, hD0, hZ⟩, hT⟩ := hv
  subst hsz
  have hl := lv_entry ([.ref (gad g 0), .int x1]) (n := 2) (Nat.le_of_ble_eq_true rfl)
  rw [lg_entry_eq]
  generalize (lg_sl ([.ref (gad g 0), .int x1]) ++ List.replicate (2 - (lg_sl ([.ref (gad g 0), .int x1])).length) Slot.unset).toArray = ls at hl ⊢
  exact k_cPageBoard_peek g ⟨B.exec, B.bytes, B.returns, hml, findClass_of_methodNamed B.named, atoms_spec (ws := wqx_X10_peek) B.pre, B.notSynchronized, hK, fun q h => Or.inr h, hZ, cz_ok g⟩ hl0 hno hT st x1 _ _ ls ⟨hP, hD0.self, va_S.rf⟩ hl _ rfl
abbrev wq_X10_stored : List Cond := .code yX10_stored cX10_stored 3 (some .int) :: wAll
abbrev wqx_X10_stored : List Cond := .code yX10_stored cX10_stored 3 (some .int) :: wAX
theorem yd_yX10_stored : yX10_stored.cls = RX10 ∧ yX10_stored.cls ≠ "java/lang/invoke/MethodHandle" ∧ yX10_stored.cls ≠ "java/lang/invoke/VarHandle" ∧ (parseMethodDescriptor yX10_stored.desc).map (fun d => d.parameters.length) = some 2 := by decide +kernel
abbrev rm_cPageBoard_stored : Room := { frames := 6, cells := 1, slots := 6, locals := 82 }
def cPageBoard_stored_b18 (st : CS) (x1 : Int32) (x2 : Int32) : Int32 := (cDisk_wordOf st x1 x2)
set_option maxHeartbeats 4000000 in
set_option maxRecDepth 100000 in
theorem k_cPageBoard_stored_b18 {p : Program} {l : Launch} {e : Env} {s : State} {m : MethodId} {args : Array Value} {below : List Frame} {meth : Method} {c : Code} {A : Nat → Prop} (g : Gm) (C : cX p s m args meth c A cX10_stored (some .int) 3 RX10 wq_X10_stored (gD g) vwCl (cty g) (cz g)) (st : CS) (x1 : Int32) (x2 : Int32) (H : Heap) (locs : List Loc) (ls : Array Slot) (hI : cI (gD g) vwCl (cw g) A s st H locs) (hl : lv_has ls 3 [(0, .ref (gad g 0)), (1, .int x1), (2, .int x2)]) (X : Int32) (hF : X = cPageBoard_stored_b18 st x1 x2) : W p l e rm_cPageBoard_stored s m args below meth c H locs 0 0 (MQ below (cQi (gD g) vwCl (cty g) (cw g) A st X) args s 0 0 A) (F0 m 18 ls []) := by
  obtain ⟨hx, hb, hr, hml, hown, hts, hlocks, hK, hA, hZ, hzo⟩ := id C
  unfold cPageBoard_stored_b18 at hF
  refine lv_aload_n hx hb dX10_stored_18 rfl (lv_at hl 0 rfl) ?_
  refine va_get (D := gD g) (ci := 10) (C := RX10) (T := TX10) (N := 13) (v := .ref (gad g 10)) hx hb hts (fun w h => List.mem_cons_of_mem _ (isX100 w h)) hown hK hI.1 0 rfl rfl 5 (by decide) (hts _ (List.mem_cons_of_mem _ mw31)) (fun _ h9 => h9) rfl dX10_stored_19 ?_
  refine lv_iload_n hx hb dX10_stored_22 rfl (lv_at hl 1 rfl) ?_
  refine lv_iload_n hx hb dX10_stored_23 rfl (lv_at hl 2 rfl) ?_
  refine cx_Vi (As := [.int x1, .int x2]) (rest := []) C (c_cDisk_wordOf l g st x1 x2) (cwV 2 hts (gd_V _ mw275 mw276 mw277 mw30 mw278) rfl rfl rfl yd_yX2_wordOf ⟨Nat.le_of_ble_eq_true rfl, Nat.le_of_ble_eq_true rfl⟩) (va_recv hK hI.1 (ci := 2) (q0 := 10) rfl rfl) hI rfl hl.1 rfl (Nat.le_of_ble_eq_true rfl) dX10_stored_24 (fun H locs hI => ?_)
  exact cx_iret C hI rfl hF dX10_stored_27
def cPageBoard_stored (st : CS) (x1 : Int32) (x2 : Int32) : Option (CS × Int32) := (if ((cDisk_isWord x1 x2) = 0) then none else (some (st, (cPageBoard_stored_b18 st x1 x2))))
set_option maxHeartbeats 4000000 in
set_option maxRecDepth 100000 in
theorem k_cPageBoard_stored {p : Program} {l : Launch} {e : Env} {s : State} {m : MethodId} {args : Array Value} {below : List Frame} {meth : Method} {c : Code} {A : Nat → Prop} (g : Gm) (CX : cX p s m args meth c A cX10_stored (some .int) 3 RX10 wqx_X10_stored (gD g) vwCl (cty g) (cz g)) (hl0 : l.stackTraces = false) (hno : ∀ x ∈ c.exceptionTable.toList, False) (hT : tP "java/lang/IndexOutOfBoundsException" 108 "no such word of a SECTOR" A s s.heap) (st : CS) (x1 : Int32) (x2 : Int32) (H : Heap) (locs : List Loc) (ls : Array Slot) (hI : cI (gD g) vwCl (cw g) A s st H locs) (hl : lv_has ls 3 [(0, .ref (gad g 0)), (1, .int x1), (2, .int x2)]) (X : Option (CS × Int32)) (hF : X = cPageBoard_stored st x1 x2) : W p l e rm_cPageBoard_stored s m args below meth c H locs 0 0 (vx_MQ below (xQ (gD g) vwCl (cty g) (cw g) A X) (xX "java/lang/IndexOutOfBoundsException" (gD g) vwCl (cty g) (cw g) A st X) args s 1 6 A) (F0 m 0 ls []) := by
  obtain ⟨hx, hb, hr, hml, hown, htsX, hlocks, hK, hA, hZ, hzo⟩ := id CX
  have hts : ∀ w ∈ wq_X10_stored, w.before args s = true := fun w h => htsX w ((List.mem_cons.mp h).elim (fun q => List.mem_cons.mpr (Or.inl q)) (fun q => List.mem_cons_of_mem _ (wAll_in q)))
  have C : cX p s m args meth c A cX10_stored (some .int) 3 RX10 wq_X10_stored (gD g) vwCl (cty g) (cz g) := ⟨hx, hb, hr, hml, hown, hts, hlocks, hK, hA, hZ, hzo⟩
  unfold cPageBoard_stored at hF
  refine lv_iload_n hx hb dX10_stored_0 rfl (lv_at hl 1 rfl) ?_
  refine lv_iload_n hx hb dX10_stored_1 rfl (lv_at hl 2 rfl) ?_
  refine cx_Si (As := [.int x1, .int x2]) (rest := []) C (c_cDisk_isWord l g st x1 x2) (va_cwS 2 hts (gd_S _ mw259 mw260 mw30 mw261) rfl rfl rfl yd_yX2_isWord ⟨Nat.le_of_ble_eq_true rfl, Nat.le_of_ble_eq_true rfl⟩) hI rfl hl.1 rfl (Nat.le_of_ble_eq_true rfl) dX10_stored_2 (fun H locs hI => ?_)
  refine lv_if_ne (tgt := 18) hx hb dX10_stored_5 (by decide) (fun c_5 => ?_) (fun c_5 => ?_)
  · have hF := hF.trans (if_neg c_5)
    exact thr_ok hF (k_cPageBoard_stored_b18 g C st x1 x2 H locs ls hI (lv_sub hl [0, 1, 2] rfl) _ rfl)
  · have hF := hF.trans (if_pos c_5)
    exact thr0 hl0 CX hno hT hI hF hl.1 mw244 dX10_stored_8 dX10_stored_11 dX10_stored_12 dX10_stored_14 dX10_stored_17 (Nat.le_of_ble_eq_true rfl) (Nat.le_of_ble_eq_true rfl) (Nat.le_of_ble_eq_true rfl) (Nat.le_of_ble_eq_true rfl)
set_option maxHeartbeats 4000000 in
set_option maxRecDepth 100000 in
theorem c_cPageBoard_stored (l : Launch) (hl0 : l.stackTraces = false) (g : Gm) (st : CS) (x1 : Int32) (x2 : Int32) : Mx "java/lang/IndexOutOfBoundsException" 108 "no such word of a SECTOR" l yX10_stored wqx_X10_stored rm_cPageBoard_stored (gD g) vwCl (cty g) (cw g) (cz g) [.ref (gad g 0), .int x1, .int x2] st (cPageBoard_stored st x1 x2) := by
  intro sz
  refine vx_ofW (cc := cX10_stored) (maxL := 3) (ret := (some .int)) (by decide) rfl ?_
  intro p e s m args below meth c s₁ B hml hno hv
  obtain ⟨rfl, ⟨hsz, hP, hK, hD0, hZ⟩, hT⟩ := hv
  subst hsz
  have hl := lv_entry ([.ref (gad g 0), .int x1, .int x2]) (n := 3) (Nat.le_of_ble_eq_true rfl)
  rw [lg_entry_eq]
  generalize (lg_sl ([.ref (gad g 0), .int x1, .int x2]) ++ List.replicate (3 - (lg_sl ([.ref (gad g 0), .int x1, .int x2])).length) Slot.unset).toArray = ls at hl ⊢
  exact k_cPageBoard_stored g ⟨B.exec, B.bytes, B.returns, hml, findClass_of_methodNamed B.named, atoms_spec (ws := wqx_X10_stored) B.pre, B.notSynchronized, hK, fun q h => Or.inr h, hZ, cz_ok g⟩ hl0 hno hT st x1 x2 _ _ ls ⟨hP, hD0.self, va_S.rf⟩ hl _ rfl
abbrev wq_X10_register : List Cond := .code yX10_register cX10_register 3 (some .int) :: wAll
abbrev wqx_X10_register : List Cond := .code yX10_register cX10_register 3 (some .int) :: wAX
theorem yd_yX10_register : yX10_register.cls = RX10 ∧ yX10_register.cls ≠ "java/lang/invoke/MethodHandle" ∧ yX10_register.cls ≠ "java/lang/invoke/VarHandle" ∧ (parseMethodDescriptor yX10_register.desc).map (fun d => d.parameters.length) = some 2 := by decide +kernel
abbrev rm_cPageBoard_register : Room := { frames := 6, cells := 1, slots := 6, locals := 82 }
def cPageBoard_register_b18 (st : CS) (x1 : Int32) (x2 : Int32) : Int32 := (cRegisters_of st x1 x2)
set_option maxHeartbeats 4000000 in
set_option maxRecDepth 100000 in
theorem k_cPageBoard_register_b18 {p : Program} {l : Launch} {e : Env} {s : State} {m : MethodId} {args : Array Value} {below : List Frame} {meth : Method} {c : Code} {A : Nat → Prop} (g : Gm) (C : cX p s m args meth c A cX10_register (some .int) 3 RX10 wq_X10_register (gD g) vwCl (cty g) (cz g)) (st : CS) (x1 : Int32) (x2 : Int32) (H : Heap) (locs : List Loc) (ls : Array Slot) (hI : cI (gD g) vwCl (cw g) A s st H locs) (hl : lv_has ls 3 [(0, .ref (gad g 0)), (1, .int x1), (2, .int x2)]) (X : Int32) (hF : X = cPageBoard_register_b18 st x1 x2) : W p l e rm_cPageBoard_register s m args below meth c H locs 0 0 (MQ below (cQi (gD g) vwCl (cty g) (cw g) A st X) args s 0 0 A) (F0 m 18 ls []) := by
  obtain ⟨hx, hb, hr, hml, hown, hts, hlocks, hK, hA, hZ, hzo⟩ := id C
  unfold cPageBoard_register_b18 at hF
  refine lv_aload_n hx hb dX10_register_18 rfl (lv_at hl 0 rfl) ?_
  refine va_get (D := gD g) (ci := 10) (C := RX10) (T := TX10) (N := 13) (v := .ref (gad g 2)) hx hb hts (fun w h => List.mem_cons_of_mem _ (isX100 w h)) hown hK hI.1 0 rfl rfl 1 (by decide) (hts _ (List.mem_cons_of_mem _ mw15)) (fun _ h9 => h9) rfl dX10_register_19 ?_
  refine lv_iload_n hx hb dX10_register_22 rfl (lv_at hl 1 rfl) ?_
  refine lv_iload_n hx hb dX10_register_23 rfl (lv_at hl 2 rfl) ?_
  refine cx_Vi (As := [.int x1, .int x2]) (rest := []) C (c_cRegisters_of l g st x1 x2) (cwV 2 hts (gd_V _ mw964 mw449 mw450 mw14 mw451) rfl rfl rfl yd_yX6_of ⟨Nat.le_of_ble_eq_true rfl, Nat.le_of_ble_eq_true rfl⟩) (va_recv hK hI.1 (ci := 6) (q0 := 2) rfl rfl) hI rfl hl.1 rfl (Nat.le_of_ble_eq_true rfl) dX10_register_24 (fun H locs hI => ?_)
  exact cx_iret C hI rfl hF dX10_register_27
def cPageBoard_register (st : CS) (x1 : Int32) (x2 : Int32) : Option (CS × Int32) := (if ((cRegisters_isRegister x1 x2) = 0) then none else (some (st, (cPageBoard_register_b18 st x1 x2))))
set_option maxHeartbeats 4000000 in
set_option maxRecDepth 100000 in
theorem k_cPageBoard_register {p : Program} {l : Launch} {e : Env} {s : State} {m : MethodId} {args : Array Value} {below : List Frame} {meth : Method} {c : Code} {A : Nat → Prop} (g : Gm) (CX : cX p s m args meth c A cX10_register (some .int) 3 RX10 wqx_X10_register (gD g) vwCl (cty g) (cz g)) (hl0 : l.stackTraces = false) (hno : ∀ x ∈ c.exceptionTable.toList, False) (hT : tP "java/lang/IndexOutOfBoundsException" 138 "no such register" A s s.heap) (st : CS) (x1 : Int32) (x2 : Int32) (H : Heap) (locs : List Loc) (ls : Array Slot) (hI : cI (gD g) vwCl (cw g) A s st H locs) (hl : lv_has ls 3 [(0, .ref (gad g 0)), (1, .int x1), (2, .int x2)]) (X : Option (CS × Int32)) (hF : X = cPageBoard_register st x1 x2) : W p l e rm_cPageBoard_register s m args below meth c H locs 0 0 (vx_MQ below (xQ (gD g) vwCl (cty g) (cw g) A X) (xX "java/lang/IndexOutOfBoundsException" (gD g) vwCl (cty g) (cw g) A st X) args s 1 6 A) (F0 m 0 ls []) := by
  obtain ⟨hx, hb, hr, hml, hown, htsX, hlocks, hK, hA, hZ, hzo⟩ := id CX
  have hts : ∀ w ∈ wq_X10_register, w.before args s = true := fun w h => htsX w ((List.mem_cons.mp h).elim (fun q => List.mem_cons.mpr (Or.inl q)) (fun q => List.mem_cons_of_mem _ (wAll_in q)))
  have C : cX p s m args meth c A cX10_register (some .int) 3 RX10 wq_X10_register (gD g) vwCl (cty g) (cz g) := ⟨hx, hb, hr, hml, hown, hts, hlocks, hK, hA, hZ, hzo⟩
  unfold cPageBoard_register at hF
  refine lv_iload_n hx hb dX10_register_0 rfl (lv_at hl 1 rfl) ?_
  refine lv_iload_n hx hb dX10_register_1 rfl (lv_at hl 2 rfl) ?_
  refine cx_Si (As := [.int x1, .int x2]) (rest := []) C (c_cRegisters_isRegister l g st x1 x2) (va_cwS 2 hts (gd_S _ mw961 mw962 mw14 mw963) rfl rfl rfl yd_yX6_isRegister ⟨Nat.le_of_ble_eq_true rfl, Nat.le_of_ble_eq_true rfl⟩) hI rfl hl.1 rfl (Nat.le_of_ble_eq_true rfl) dX10_register_2 (fun H locs hI => ?_)
  refine lv_if_ne (tgt := 18) hx hb dX10_register_5 (by decide) (fun c_5 => ?_) (fun c_5 => ?_)
  · have hF := hF.trans (if_neg c_5)
    exact thr_ok hF (k_cPageBoard_register_b18 g C st x1 x2 H locs ls hI (lv_sub hl [0, 1, 2] rfl) _ rfl)
  · have hF := hF.trans (if_pos c_5)
    exact thr0 hl0 CX hno hT hI hF hl.1 mw244 dX10_register_8 dX10_register_11 dX10_register_12 dX10_register_14 dX10_register_17 (Nat.le_of_ble_eq_true rfl) (Nat.le_of_ble_eq_true rfl) (Nat.le_of_ble_eq_true rfl) (Nat.le_of_ble_eq_true rfl)
set_option maxHeartbeats 4000000 in
set_option maxRecDepth 100000 in
theorem c_cPageBoard_register (l : Launch) (hl0 : l.stackTraces = false) (g : Gm) (st : CS) (x1 : Int32) (x2 : Int32) : Mx "java/lang/IndexOutOfBoundsException" 138 "no such register" l yX10_register wqx_X10_register rm_cPageBoard_register (gD g) vwCl (cty g) (cw g) (cz g) [.ref (gad g 0), .int x1, .int x2] st (cPageBoard_register st x1 x2) := by
  intro sz
  refine vx_ofW (cc := cX10_register) (maxL := 3) (ret := (some .int)) (by decide) rfl ?_
  intro p e s m args below meth c s₁ B hml hno hv
  obtain ⟨rfl, ⟨hsz, hP, hK, hD0, hZ⟩, hT⟩ := hv
  subst hsz
  have hl := lv_entry ([.ref (gad g 0), .int x1, .int x2]) (n := 3) (Nat.le_of_ble_eq_true rfl)
  rw [lg_entry_eq]
  generalize (lg_sl ([.ref (gad g 0), .int x1, .int x2]) ++ List.replicate (3 - (lg_sl ([.ref (gad g 0), .int x1, .int x2])).length) Slot.unset).toArray = ls at hl ⊢
  exact k_cPageBoard_register g ⟨B.exec, B.bytes, B.returns, hml, findClass_of_methodNamed B.named, atoms_spec (ws := wqx_X10_register) B.pre, B.notSynchronized, hK, fun q h => Or.inr h, hZ, cz_ok g⟩ hl0 hno hT st x1 x2 _ _ ls ⟨hP, hD0.self, va_S.rf⟩ hl _ rfl
abbrev wq_X10_step : List Cond := .code yX10_step cX10_step 3 (some .int) :: wAll
abbrev wqx_X10_step : List Cond := .code yX10_step cX10_step 3 (some .int) :: wAX
theorem yd_yX10_step : yX10_step.cls = RX10 ∧ yX10_step.cls ≠ "java/lang/invoke/MethodHandle" ∧ yX10_step.cls ≠ "java/lang/invoke/VarHandle" ∧ (parseMethodDescriptor yX10_step.desc).map (fun d => d.parameters.length) = some 1 := by decide +kernel
abbrev rm_cPageBoard_step : Room := { frames := 7, cells := 1, slots := 6, locals := 166 }
def cPageBoard_step_b33 (rec : CS → Int32 → Int32 → Option (CS × Int32)) (st : CS) (x1 : Int32) (x2 : Int32) (y0 : Int32) : Option (CS × Int32) := (if ((cPageBoard_isAtStop st) = 0) then (rec st x1 (x2 + (1 : Int32))) else (some (st, x2)))
set_option maxHeartbeats 4000000 in
set_option maxRecDepth 100000 in
theorem k_cPageBoard_step_b33 {p : Program} {l : Launch} {e : Env} {s : State} {m : MethodId} {args : Array Value} {below : List Frame} {meth : Method} {c : Code} {A : Nat → Prop} (g : Gm) (C : cX p s m args meth c A cX10_step (some .int) 3 RX10 wq_X10_step (gD g) vwCl (cty g) (cz g)) (rec : CS → Int32 → Int32 → Option (CS × Int32)) (hrec : ∀ (st : CS) (x1 : Int32) (x2 : Int32) (H : Heap) (locs : List Loc) (ls : Array Slot), cI (gD g) vwCl (cw g) A s st H locs → lv_has ls 3 [(0, .ref (gad g 0)), (1, .int x1), (2, .int x2)] → ∀ (X : CS × Int32), some X = rec st x1 x2 → W p l e rm_cPageBoard_step s m args below meth c H locs 0 0 (MQ below (cQi (gD g) vwCl (cty g) (cw g) A X.1 X.2) args s 0 0 A) (F0 m 24 ls [])) (st : CS) (x1 : Int32) (x2 : Int32) (y0 : Int32) (H : Heap) (locs : List Loc) (ls : Array Slot) (hI : cI (gD g) vwCl (cw g) A s st H locs) (hl : lv_has ls 3 [(0, .ref (gad g 0)), (1, .int x1), (2, .int x2)]) (X : CS × Int32) (hF : some X = cPageBoard_step_b33 rec st x1 x2 y0) : W p l e rm_cPageBoard_step s m args below meth c H locs 0 0 (MQ below (cQi (gD g) vwCl (cty g) (cw g) A X.1 X.2) args s 0 0 A) (F0 m 33 ls [.int y0]) := by
  obtain ⟨hx, hb, hr, hml, hown, hts, hlocks, hK, hA, hZ, hzo⟩ := id C
  unfold cPageBoard_step_b33 at hF
  refine lv_pop hx hb dX10_step_33 rfl ?_
  refine lv_aload_n hx hb dX10_step_34 rfl (lv_at hl 0 rfl) ?_
  refine cx_Vi (As := []) (rest := []) C (c_cPageBoard_isAtStop l g st ) (cwV 0 hts (gd_V _ mw731 mw732 mw733 mw1 mw734) rfl rfl rfl yd_yX10_isAtStop ⟨Nat.le_of_ble_eq_true rfl, Nat.le_of_ble_eq_true rfl⟩) (va_recv hK hI.1 (ci := 10) (q0 := 0) rfl rfl) hI rfl hl.1 rfl (Nat.le_of_ble_eq_true rfl) dX10_step_35 (fun H locs hI => ?_)
  refine lv_if_eq (tgt := 43) hx hb dX10_step_38 (by decide) (fun c_38 => ?_) (fun c_38 => ?_)
  · have hF := hF.trans (if_pos c_38)
    refine lv_iinc (v := (x2 + (1 : Int32))) (lv' := [(2, .int (x2 + (1 : Int32))), (0, .ref (gad g 0)), (1, .int x1)]) hx hb dX10_step_43 hl (k := 2) rfl rfl (by decide) rfl (fun ls hl => ?_)
    refine lv_goto (tgt := 24) hx hb dX10_step_46 (by decide) ?_
    exact hrec st x1 (x2 + (1 : Int32)) H locs ls hI (lv_sub hl [1, 2, 0] rfl) X hF
  · have hF := hF.trans (if_neg c_38)
    refine lv_iload_n hx hb dX10_step_41 rfl (lv_at hl 2 rfl) ?_
    have hF := Option.some.inj hF
    exact cx_iret C hI (congrArg Prod.fst hF) (congrArg Prod.snd hF) dX10_step_42
def cPageBoard_step_b24 : Nat → CS → Int32 → Int32 → Option (CS × Int32)
  | 0, _, _, _ => none
  | n + 1, st, x1, x2 => (if (x1 < x2) then (some (st, x1)) else (cPageBoard_step_b33 (cPageBoard_step_b24 n) (cPageBoard_oneStep st).1 x1 x2 (cPageBoard_oneStep st).2))
set_option maxHeartbeats 4000000 in
set_option maxRecDepth 100000 in
theorem k_cPageBoard_step_b24 {p : Program} {l : Launch} {e : Env} {s : State} {m : MethodId} {args : Array Value} {below : List Frame} {meth : Method} {c : Code} {A : Nat → Prop} (g : Gm) (C : cX p s m args meth c A cX10_step (some .int) 3 RX10 wq_X10_step (gD g) vwCl (cty g) (cz g)) : ∀ (n : Nat) (st : CS) (x1 : Int32) (x2 : Int32) (H : Heap) (locs : List Loc) (ls : Array Slot), cI (gD g) vwCl (cw g) A s st H locs → lv_has ls 3 [(0, .ref (gad g 0)), (1, .int x1), (2, .int x2)] → ∀ (X : CS × Int32), some X = cPageBoard_step_b24 n st x1 x2 → W p l e rm_cPageBoard_step s m args below meth c H locs 0 0 (MQ below (cQi (gD g) vwCl (cty g) (cw g) A X.1 X.2) args s 0 0 A) (F0 m 24 ls []) := by
  obtain ⟨hx, hb, hr, hml, hown, hts, hlocks, hK, hA, hZ, hzo⟩ := id C
  intro n
  induction n with
  | zero => intro st x1 x2 H locs ls hI hl X hF; exact absurd hF (by simp [cPageBoard_step_b24])
  | succ n ih =>
    intro st x1 x2 H locs ls hI hl X hF
    rw [cPageBoard_step_b24] at hF
    refine lv_iload_n hx hb dX10_step_24 rfl (lv_at hl 2 rfl) ?_
    refine lv_iload_n hx hb dX10_step_25 rfl (lv_at hl 1 rfl) ?_
    refine lv_icmp_gt (tgt := 49) hx hb dX10_step_26 (by decide) (fun c_26 => ?_) (fun c_26 => ?_)
    · have hF := hF.trans (if_pos c_26)
      refine lv_iload_n hx hb dX10_step_49 rfl (lv_at hl 1 rfl) ?_
      have hF := Option.some.inj hF
      exact cx_iret C hI (congrArg Prod.fst hF) (congrArg Prod.snd hF) dX10_step_50
    · have hF := hF.trans (if_neg c_26)
      refine lv_aload_n hx hb dX10_step_29 rfl (lv_at hl 0 rfl) ?_
      refine cx_Vi (As := []) (rest := []) C (c_cPageBoard_oneStep l g st ) (cwV 0 hts (gd_V _ mw298 mw299 mw300 mw1 mw301) rfl rfl rfl yd_yX10_oneStep ⟨Nat.le_of_ble_eq_true rfl, Nat.le_of_ble_eq_true rfl⟩) (va_recv hK hI.1 (ci := 10) (q0 := 0) rfl rfl) hI rfl hl.1 rfl (Nat.le_of_ble_eq_true rfl) dX10_step_30 (fun H locs hI => ?_)
      exact k_cPageBoard_step_b33 g C (cPageBoard_step_b24 n) ih (cPageBoard_oneStep st).1 x1 x2 (cPageBoard_oneStep st).2 H locs ls hI (lv_sub hl [0, 1, 2] rfl) X hF
def cPageBoard_step_b24t (st : CS) (x1 : Int32) (x2 : Int32) : CS × Int32 := (cPageBoard_step_b24 (x1.toNatClampNeg + 1) st x1 x2).getD (st, 0)
theorem e_cPageBoard_step (K : Nat) (hK : K ≤ 5000) : ∀ (n j : Nat) (st : CS), j ≤ K + 1 → K + 1 - j < n → ∃ r, cPageBoard_step_b24 n st (nI K) (nI j) = some r := by
  intro n
  induction n with
  | zero => intro j st h1 h2; omega
  | succ n ih =>
    intro j st h1 h2
    rw [cPageBoard_step_b24]
    rcases Nat.lt_or_ge K j with q | q
    · rw [if_pos (nI_lt q (by omega))]
      exact ⟨_, rfl⟩
    · rw [if_neg (nI_nlt q (by omega))]
      simp only [cPageBoard_step_b33]
      rw [show nI j + (1 : Int32) = nI (j + 1) from nI_1 j]
      split
      · exact ih (j + 1) _ (by omega) (by omega)
      · exact ⟨_, rfl⟩
theorem t_cPageBoard_step_b24 (st : CS) (x1 x2 : Int32) (hz : x2 = 1) (hm : x1 ≤ (5000 : Int32)) : some (cPageBoard_step_b24t st x1 x2) = cPageBoard_step_b24 (x1.toNatClampNeg + 1) st x1 x2 := by
  subst hz
  refine some_getD ?_
  by_cases h : x1 < 0
  · rw [cPageBoard_step_b24, if_pos (Int32.lt_trans h (by decide))]
    exact ⟨_, rfl⟩
  · obtain ⟨j, hj, rfl⟩ := nI_of h
    have hj2 : j ≤ 5000 := (nI_leI hj (by decide)).mp (show nI j ≤ nI 5000 from hm)
    exact e_cPageBoard_step j hj2 _ 1 st (by omega) (by rw [nI_clamp hj]; omega)
set_option maxHeartbeats 4000000 in
set_option maxRecDepth 100000 in
theorem k_cPageBoard_step_b24t {p : Program} {l : Launch} {e : Env} {s : State} {m : MethodId} {args : Array Value} {below : List Frame} {meth : Method} {c : Code} {A : Nat → Prop} (g : Gm) (C : cX p s m args meth c A cX10_step (some .int) 3 RX10 wq_X10_step (gD g) vwCl (cty g) (cz g)) (st : CS) (x1 : Int32) (x2 : Int32) (H : Heap) (locs : List Loc) (ls : Array Slot) (hI : cI (gD g) vwCl (cw g) A s st H locs) (hl : lv_has ls 3 [(0, .ref (gad g 0)), (1, .int x1), (2, .int x2)]) (hz : x2 = 1) (hm : x1 ≤ (5000 : Int32)) (X : CS × Int32) (hF : X = cPageBoard_step_b24t st x1 x2) : W p l e rm_cPageBoard_step s m args below meth c H locs 0 0 (MQ below (cQi (gD g) vwCl (cty g) (cw g) A X.1 X.2) args s 0 0 A) (F0 m 24 ls []) := by
  refine k_cPageBoard_step_b24 g C (x1.toNatClampNeg + 1) st x1 x2 H locs ls hI hl X ?_
  rw [hF]
  exact t_cPageBoard_step_b24 st x1 x2 hz hm
def cPageBoard_step_b22 (st : CS) (x1 : Int32) : CS × Int32 := (cPageBoard_step_b24t st x1 (1 : Int32))
set_option maxHeartbeats 4000000 in
set_option maxRecDepth 100000 in
theorem k_cPageBoard_step_b22 {p : Program} {l : Launch} {e : Env} {s : State} {m : MethodId} {args : Array Value} {below : List Frame} {meth : Method} {c : Code} {A : Nat → Prop} (g : Gm) (C : cX p s m args meth c A cX10_step (some .int) 3 RX10 wq_X10_step (gD g) vwCl (cty g) (cz g)) (st : CS) (x1 : Int32) (H : Heap) (locs : List Loc) (ls : Array Slot) (hI : cI (gD g) vwCl (cw g) A s st H locs) (hl : lv_has ls 3 [(0, .ref (gad g 0)), (1, .int x1)]) (hm : x1 ≤ (5000 : Int32)) (X : CS × Int32) (hF : X = cPageBoard_step_b22 st x1) : W p l e rm_cPageBoard_step s m args below meth c H locs 0 0 (MQ below (cQi (gD g) vwCl (cty g) (cw g) A X.1 X.2) args s 0 0 A) (F0 m 22 ls []) := by
  obtain ⟨hx, hb, hr, hml, hown, hts, hlocks, hK, hA, hZ, hzo⟩ := id C
  unfold cPageBoard_step_b22 at hF
  refine lv_iconst (v := (1 : Int32)) hx hb dX10_step_22 (by decide) ?_
  refine lv_istore_n (lv' := [(2, .int (1 : Int32)), (0, .ref (gad g 0)), (1, .int x1)]) hx hb dX10_step_23 rfl hl (by decide) rfl (fun ls hl => ?_)
  exact k_cPageBoard_step_b24t g C st x1 (1 : Int32) H locs ls hI (lv_sub hl [1, 2, 0] rfl) rfl hm X hF
def cPageBoard_step (st : CS) (x1 : Int32) : Option (CS × Int32) := (if (x1 < (1 : Int32)) then none else (if (x1 ≤ (5000 : Int32)) then (some (cPageBoard_step_b22 st x1)) else none))
set_option maxHeartbeats 4000000 in
set_option maxRecDepth 100000 in
theorem k_cPageBoard_step {p : Program} {l : Launch} {e : Env} {s : State} {m : MethodId} {args : Array Value} {below : List Frame} {meth : Method} {c : Code} {A : Nat → Prop} (g : Gm) (CX : cX p s m args meth c A cX10_step (some .int) 3 RX10 wqx_X10_step (gD g) vwCl (cty g) (cz g)) (hl0 : l.stackTraces = false) (hno : ∀ x ∈ c.exceptionTable.toList, False) (hT : tP "java/lang/IllegalArgumentException" 120 "not 1 .. 5000 STEPS" A s s.heap) (st : CS) (x1 : Int32) (H : Heap) (locs : List Loc) (ls : Array Slot) (hI : cI (gD g) vwCl (cw g) A s st H locs) (hl : lv_has ls 3 [(0, .ref (gad g 0)), (1, .int x1)]) (X : Option (CS × Int32)) (hF : X = cPageBoard_step st x1) : W p l e rm_cPageBoard_step s m args below meth c H locs 0 0 (vx_MQ below (xQ (gD g) vwCl (cty g) (cw g) A X) (xX "java/lang/IllegalArgumentException" (gD g) vwCl (cty g) (cw g) A st X) args s 1 6 A) (F0 m 0 ls []) := by
  obtain ⟨hx, hb, hr, hml, hown, htsX, hlocks, hK, hA, hZ, hzo⟩ := id CX
  have hts : ∀ w ∈ wq_X10_step, w.before args s = true := fun w h => htsX w ((List.mem_cons.mp h).elim (fun q => List.mem_cons.mpr (Or.inl q)) (fun q => List.mem_cons_of_mem _ (wAll_in q)))
  have C : cX p s m args meth c A cX10_step (some .int) 3 RX10 wq_X10_step (gD g) vwCl (cty g) (cz g) := ⟨hx, hb, hr, hml, hown, hts, hlocks, hK, hA, hZ, hzo⟩
  unfold cPageBoard_step at hF
  refine lv_iload_n hx hb dX10_step_0 rfl (lv_at hl 1 rfl) ?_
  refine lv_iconst (v := (1 : Int32)) hx hb dX10_step_1 (by decide) ?_
  refine lv_icmp_lt (tgt := 12) hx hb dX10_step_2 (by decide) (fun c_2 => ?_) (fun c_2 => ?_)
  · have hF := hF.trans (if_pos c_2)
    exact thr1 hl0 CX hno hT hI hF hl.1 mw296 dX10_step_12 dX10_step_15 dX10_step_16 dX10_step_18 dX10_step_21 (Nat.le_of_ble_eq_true rfl) (Nat.le_of_ble_eq_true rfl) (Nat.le_of_ble_eq_true rfl) (Nat.le_of_ble_eq_true rfl)
  · have hF := hF.trans (if_neg c_2)
    refine lv_iload_n hx hb dX10_step_5 rfl (lv_at hl 1 rfl) ?_
    refine lv_sipush (v := (5000 : Int32)) hx hb dX10_step_6 (by decide) ?_
    refine lv_icmp_le (tgt := 22) hx hb dX10_step_9 (by decide) (fun c_9 => ?_) (fun c_9 => ?_)
    · have hF := hF.trans (if_pos c_9)
      exact thr_ok hF (k_cPageBoard_step_b22 g C st x1 H locs ls hI (lv_sub hl [0, 1] rfl) c_9 _ rfl)
    · have hF := hF.trans (if_neg c_9)
      exact thr1 hl0 CX hno hT hI hF hl.1 mw296 dX10_step_12 dX10_step_15 dX10_step_16 dX10_step_18 dX10_step_21 (Nat.le_of_ble_eq_true rfl) (Nat.le_of_ble_eq_true rfl) (Nat.le_of_ble_eq_true rfl) (Nat.le_of_ble_eq_true rfl)
set_option maxHeartbeats 4000000 in
set_option maxRecDepth 100000 in
theorem c_cPageBoard_step (l : Launch) (hl0 : l.stackTraces = false) (g : Gm) (st : CS) (x1 : Int32) : Mx "java/lang/IllegalArgumentException" 120 "not 1 .. 5000 STEPS" l yX10_step wqx_X10_step rm_cPageBoard_step (gD g) vwCl (cty g) (cw g) (cz g) [.ref (gad g 0), .int x1] st (cPageBoard_step st x1) := by
  intro sz
  refine vx_ofW (cc := cX10_step) (maxL := 3) (ret := (some .int)) (by decide) rfl ?_
  intro p e s m args below meth c s₁ B hml hno hv
  obtain ⟨rfl, ⟨hsz, hP, hK, hD0, hZ⟩, hT⟩ := hv
  subst hsz
  have hl := lv_entry ([.ref (gad g 0), .int x1]) (n := 3) (Nat.le_of_ble_eq_true rfl)
  rw [lg_entry_eq]
  generalize (lg_sl ([.ref (gad g 0), .int x1]) ++ List.replicate (3 - (lg_sl ([.ref (gad g 0), .int x1])).length) Slot.unset).toArray = ls at hl ⊢
  exact k_cPageBoard_step g ⟨B.exec, B.bytes, B.returns, hml, findClass_of_methodNamed B.named, atoms_spec (ws := wqx_X10_step) B.pre, B.notSynchronized, hK, fun q h => Or.inr h, hZ, cz_ok g⟩ hl0 hno hT st x1 _ _ ls ⟨hP, hD0.self, va_S.rf⟩ hl _ rfl
abbrev wq_X10_run : List Cond := .code yX10_run cX10_run 4 (some .int) :: wAll
abbrev wqx_X10_run : List Cond := .code yX10_run cX10_run 4 (some .int) :: wAX
theorem yd_yX10_run : yX10_run.cls = RX10 ∧ yX10_run.cls ≠ "java/lang/invoke/MethodHandle" ∧ yX10_run.cls ≠ "java/lang/invoke/VarHandle" ∧ (parseMethodDescriptor yX10_run.desc).map (fun d => d.parameters.length) = some 1 := by decide +kernel
abbrev rm_cPageBoard_run : Room := { frames := 7, cells := 1, slots := 6, locals := 166 }
def cPageBoard_run_b41 (rec : CS → Int32 → Int32 → Int32 → Option (CS × Int32)) (st : CS) (x1 : Int32) (x3 : Int32) (y1 : Int32) (y0 : Int32) : Option (CS × Int32) := (if ((cPageBoard_isAtStop st) = 0) then (rec st x1 (y1 + y0) (x3 + (1 : Int32))) else (some (st, (x3 + (1 : Int32)))))
set_option maxHeartbeats 4000000 in
set_option maxRecDepth 100000 in
theorem k_cPageBoard_run_b41 {p : Program} {l : Launch} {e : Env} {s : State} {m : MethodId} {args : Array Value} {below : List Frame} {meth : Method} {c : Code} {A : Nat → Prop} (g : Gm) (C : cX p s m args meth c A cX10_run (some .int) 4 RX10 wq_X10_run (gD g) vwCl (cty g) (cz g)) (rec : CS → Int32 → Int32 → Int32 → Option (CS × Int32)) (hrec : ∀ (st : CS) (x1 : Int32) (x2 : Int32) (x3 : Int32) (H : Heap) (locs : List Loc) (ls : Array Slot), cI (gD g) vwCl (cw g) A s st H locs → lv_has ls 4 [(0, .ref (gad g 0)), (1, .int x1), (2, .int x2), (3, .int x3)] → ∀ (X : CS × Int32), some X = rec st x1 x2 x3 → W p l e rm_cPageBoard_run s m args below meth c H locs 0 0 (MQ below (cQi (gD g) vwCl (cty g) (cw g) A X.1 X.2) args s 0 0 A) (F0 m 26 ls [])) (st : CS) (x1 : Int32) (x3 : Int32) (y1 : Int32) (y0 : Int32) (H : Heap) (locs : List Loc) (ls : Array Slot) (hI : cI (gD g) vwCl (cw g) A s st H locs) (hl : lv_has ls 4 [(0, .ref (gad g 0)), (1, .int x1), (3, .int x3)]) (X : CS × Int32) (hF : some X = cPageBoard_run_b41 rec st x1 x3 y1 y0) : W p l e rm_cPageBoard_run s m args below meth c H locs 0 0 (MQ below (cQi (gD g) vwCl (cty g) (cw g) A X.1 X.2) args s 0 0 A) (F0 m 41 ls [.int y0, .int y1]) := by
  obtain ⟨hx, hb, hr, hml, hown, hts, hlocks, hK, hA, hZ, hzo⟩ := id C
  unfold cPageBoard_run_b41 at hF
  refine lv_iadd hx hb dX10_run_41 ?_
  refine lv_istore_n (lv' := [(2, .int (y1 + y0)), (0, .ref (gad g 0)), (1, .int x1), (3, .int x3)]) hx hb dX10_run_42 rfl hl (by decide) rfl (fun ls hl => ?_)
  refine lv_iinc (v := (x3 + (1 : Int32))) (lv' := [(3, .int (x3 + (1 : Int32))), (2, .int (y1 + y0)), (0, .ref (gad g 0)), (1, .int x1)]) hx hb dX10_run_43 hl (k := 3) rfl rfl (by decide) rfl (fun ls hl => ?_)
  refine lv_aload_n hx hb dX10_run_46 rfl (lv_at hl 2 rfl) ?_
  refine cx_Vi (As := []) (rest := []) C (c_cPageBoard_isAtStop l g st ) (cwV 0 hts (gd_V _ mw731 mw732 mw733 mw1 mw734) rfl rfl rfl yd_yX10_isAtStop ⟨Nat.le_of_ble_eq_true rfl, Nat.le_of_ble_eq_true rfl⟩) (va_recv hK hI.1 (ci := 10) (q0 := 0) rfl rfl) hI rfl hl.1 rfl (Nat.le_of_ble_eq_true rfl) dX10_run_47 (fun H locs hI => ?_)
  refine lv_if_eq (tgt := 26) hx hb dX10_run_50 (by decide) (fun c_50 => ?_) (fun c_50 => ?_)
  · have hF := hF.trans (if_pos c_50)
    exact hrec st x1 (y1 + y0) (x3 + (1 : Int32)) H locs ls hI (lv_sub hl [2, 3, 1, 0] rfl) X hF
  · have hF := hF.trans (if_neg c_50)
    refine lv_iload_n hx hb dX10_run_53 rfl (lv_at hl 0 rfl) ?_
    have hF := Option.some.inj hF
    exact cx_iret C hI (congrArg Prod.fst hF) (congrArg Prod.snd hF) dX10_run_54
def cPageBoard_run_b26 : Nat → CS → Int32 → Int32 → Int32 → Option (CS × Int32)
  | 0, _, _, _, _ => none
  | n + 1, st, x1, x2, x3 => (if (x1 ≤ x3) then (some (st, x3)) else (if (x1 ≤ x2) then (some (st, x3)) else (cPageBoard_run_b41 (cPageBoard_run_b26 n) (cPageBoard_oneStep st).1 x1 x3 x2 (cPageBoard_oneStep st).2)))
set_option maxHeartbeats 4000000 in
set_option maxRecDepth 100000 in
theorem k_cPageBoard_run_b26 {p : Program} {l : Launch} {e : Env} {s : State} {m : MethodId} {args : Array Value} {below : List Frame} {meth : Method} {c : Code} {A : Nat → Prop} (g : Gm) (C : cX p s m args meth c A cX10_run (some .int) 4 RX10 wq_X10_run (gD g) vwCl (cty g) (cz g)) : ∀ (n : Nat) (st : CS) (x1 : Int32) (x2 : Int32) (x3 : Int32) (H : Heap) (locs : List Loc) (ls : Array Slot), cI (gD g) vwCl (cw g) A s st H locs → lv_has ls 4 [(0, .ref (gad g 0)), (1, .int x1), (2, .int x2), (3, .int x3)] → ∀ (X : CS × Int32), some X = cPageBoard_run_b26 n st x1 x2 x3 → W p l e rm_cPageBoard_run s m args below meth c H locs 0 0 (MQ below (cQi (gD g) vwCl (cty g) (cw g) A X.1 X.2) args s 0 0 A) (F0 m 26 ls []) := by
  obtain ⟨hx, hb, hr, hml, hown, hts, hlocks, hK, hA, hZ, hzo⟩ := id C
  intro n
  induction n with
  | zero => intro st x1 x2 x3 H locs ls hI hl X hF; exact absurd hF (by simp [cPageBoard_run_b26])
  | succ n ih =>
    intro st x1 x2 x3 H locs ls hI hl X hF
    rw [cPageBoard_run_b26] at hF
    refine lv_iload_n hx hb dX10_run_26 rfl (lv_at hl 3 rfl) ?_
    refine lv_iload_n hx hb dX10_run_27 rfl (lv_at hl 1 rfl) ?_
    refine lv_icmp_ge (tgt := 55) hx hb dX10_run_28 (by decide) (fun c_28 => ?_) (fun c_28 => ?_)
    · have hF := hF.trans (if_pos c_28)
      refine lv_iload_n hx hb dX10_run_55 rfl (lv_at hl 3 rfl) ?_
      have hF := Option.some.inj hF
      exact cx_iret C hI (congrArg Prod.fst hF) (congrArg Prod.snd hF) dX10_run_56
    · have hF := hF.trans (if_neg c_28)
      refine lv_iload_n hx hb dX10_run_31 rfl (lv_at hl 2 rfl) ?_
      refine lv_iload_n hx hb dX10_run_32 rfl (lv_at hl 1 rfl) ?_
      refine lv_icmp_ge (tgt := 55) hx hb dX10_run_33 (by decide) (fun c_33 => ?_) (fun c_33 => ?_)
      · have hF := hF.trans (if_pos c_33)
        refine lv_iload_n hx hb dX10_run_55 rfl (lv_at hl 3 rfl) ?_
        have hF := Option.some.inj hF
        exact cx_iret C hI (congrArg Prod.fst hF) (congrArg Prod.snd hF) dX10_run_56
      · have hF := hF.trans (if_neg c_33)
        refine lv_iload_n hx hb dX10_run_36 rfl (lv_at hl 2 rfl) ?_
        refine lv_aload_n hx hb dX10_run_37 rfl (lv_at hl 0 rfl) ?_
        refine cx_Vi (As := []) (rest := [.int x2]) C (c_cPageBoard_oneStep l g st ) (cwV 0 hts (gd_V _ mw298 mw299 mw300 mw1 mw301) rfl rfl rfl yd_yX10_oneStep ⟨Nat.le_of_ble_eq_true rfl, Nat.le_of_ble_eq_true rfl⟩) (va_recv hK hI.1 (ci := 10) (q0 := 0) rfl rfl) hI rfl hl.1 rfl (Nat.le_of_ble_eq_true rfl) dX10_run_38 (fun H locs hI => ?_)
        exact k_cPageBoard_run_b41 g C (cPageBoard_run_b26 n) ih (cPageBoard_oneStep st).1 x1 x3 x2 (cPageBoard_oneStep st).2 H locs ls hI (lv_sub hl [0, 1, 3] rfl) X hF
def cPageBoard_run_b26t (st : CS) (x1 : Int32) (x2 : Int32) (x3 : Int32) : CS × Int32 := (cPageBoard_run_b26 (x1.toNatClampNeg + 1) st x1 x2 x3).getD (st, 0)
theorem e_cPageBoard_run (K : Nat) (hK : K < 2 ^ 31) : ∀ (n j : Nat) (st : CS) (x2 : Int32), j ≤ K → K - j < n → ∃ r, cPageBoard_run_b26 n st (nI K) x2 (nI j) = some r := by
  intro n
  induction n with
  | zero => intro j st x2 h1 h2; omega
  | succ n ih =>
    intro j st x2 h1 h2
    rw [cPageBoard_run_b26]
    rcases Nat.lt_or_ge j K with q | q
    · rw [if_neg (nI_ge q hK)]
      simp only [cPageBoard_run_b41]
      rw [show nI j + (1 : Int32) = nI (j + 1) from nI_1 j]
      repeat' split
      all_goals first | exact ⟨_, rfl⟩ | exact ih (j + 1) _ _ q (by omega)
    · rw [if_pos (nI_le q (by omega))]
      exact ⟨_, rfl⟩
theorem t_cPageBoard_run_b26 (st : CS) (x1 x2 x3 : Int32) (hz : x3 = 0) : some (cPageBoard_run_b26t st x1 x2 x3) = cPageBoard_run_b26 (x1.toNatClampNeg + 1) st x1 x2 x3 := by
  subst hz
  refine some_getD ?_
  by_cases h : x1 < 0
  · rw [cPageBoard_run_b26, if_pos (Int32.le_of_lt h)]
    exact ⟨_, rfl⟩
  · obtain ⟨j, hj, rfl⟩ := nI_of h
    exact e_cPageBoard_run j hj _ 0 st x2 (Nat.zero_le _) (by rw [nI_clamp hj]; omega)
set_option maxHeartbeats 4000000 in
set_option maxRecDepth 100000 in
theorem k_cPageBoard_run_b26t {p : Program} {l : Launch} {e : Env} {s : State} {m : MethodId} {args : Array Value} {below : List Frame} {meth : Method} {c : Code} {A : Nat → Prop} (g : Gm) (C : cX p s m args meth c A cX10_run (some .int) 4 RX10 wq_X10_run (gD g) vwCl (cty g) (cz g)) (st : CS) (x1 : Int32) (x2 : Int32) (x3 : Int32) (H : Heap) (locs : List Loc) (ls : Array Slot) (hI : cI (gD g) vwCl (cw g) A s st H locs) (hl : lv_has ls 4 [(0, .ref (gad g 0)), (1, .int x1), (2, .int x2), (3, .int x3)]) (hz : x3 = 0) (X : CS × Int32) (hF : X = cPageBoard_run_b26t st x1 x2 x3) : W p l e rm_cPageBoard_run s m args below meth c H locs 0 0 (MQ below (cQi (gD g) vwCl (cty g) (cw g) A X.1 X.2) args s 0 0 A) (F0 m 26 ls []) := by
  refine k_cPageBoard_run_b26 g C (x1.toNatClampNeg + 1) st x1 x2 x3 H locs ls hI hl X ?_
  rw [hF]
  exact t_cPageBoard_run_b26 st x1 x2 x3 hz
def cPageBoard_run_b22 (st : CS) (x1 : Int32) : CS × Int32 := (cPageBoard_run_b26t st x1 (0 : Int32) (0 : Int32))
set_option maxHeartbeats 4000000 in
set_option maxRecDepth 100000 in
theorem k_cPageBoard_run_b22 {p : Program} {l : Launch} {e : Env} {s : State} {m : MethodId} {args : Array Value} {below : List Frame} {meth : Method} {c : Code} {A : Nat → Prop} (g : Gm) (C : cX p s m args meth c A cX10_run (some .int) 4 RX10 wq_X10_run (gD g) vwCl (cty g) (cz g)) (st : CS) (x1 : Int32) (H : Heap) (locs : List Loc) (ls : Array Slot) (hI : cI (gD g) vwCl (cw g) A s st H locs) (hl : lv_has ls 4 [(0, .ref (gad g 0)), (1, .int x1)]) (X : CS × Int32) (hF : X = cPageBoard_run_b22 st x1) : W p l e rm_cPageBoard_run s m args below meth c H locs 0 0 (MQ below (cQi (gD g) vwCl (cty g) (cw g) A X.1 X.2) args s 0 0 A) (F0 m 22 ls []) := by
  obtain ⟨hx, hb, hr, hml, hown, hts, hlocks, hK, hA, hZ, hzo⟩ := id C
  unfold cPageBoard_run_b22 at hF
  refine lv_iconst (v := (0 : Int32)) hx hb dX10_run_22 (by decide) ?_
  refine lv_istore_n (lv' := [(2, .int (0 : Int32)), (0, .ref (gad g 0)), (1, .int x1)]) hx hb dX10_run_23 rfl hl (by decide) rfl (fun ls hl => ?_)
  refine lv_iconst (v := (0 : Int32)) hx hb dX10_run_24 (by decide) ?_
  refine lv_istore_n (lv' := [(3, .int (0 : Int32)), (2, .int (0 : Int32)), (0, .ref (gad g 0)), (1, .int x1)]) hx hb dX10_run_25 rfl hl (by decide) rfl (fun ls hl => ?_)
  exact k_cPageBoard_run_b26t g C st x1 (0 : Int32) (0 : Int32) H locs ls hI (lv_sub hl [2, 3, 1, 0] rfl) rfl X hF
def cPageBoard_run (st : CS) (x1 : Int32) : Option (CS × Int32) := (if (x1 < (1 : Int32)) then none else (if (x1 ≤ (20000 : Int32)) then (some (cPageBoard_run_b22 st x1)) else none))
set_option maxHeartbeats 4000000 in
set_option maxRecDepth 100000 in
theorem k_cPageBoard_run {p : Program} {l : Launch} {e : Env} {s : State} {m : MethodId} {args : Array Value} {below : List Frame} {meth : Method} {c : Code} {A : Nat → Prop} (g : Gm) (CX : cX p s m args meth c A cX10_run (some .int) 4 RX10 wqx_X10_run (gD g) vwCl (cty g) (cz g)) (hl0 : l.stackTraces = false) (hno : ∀ x ∈ c.exceptionTable.toList, False) (hT : tP "java/lang/IllegalArgumentException" 131 "not 1 .. 20000 TICKS" A s s.heap) (st : CS) (x1 : Int32) (H : Heap) (locs : List Loc) (ls : Array Slot) (hI : cI (gD g) vwCl (cw g) A s st H locs) (hl : lv_has ls 4 [(0, .ref (gad g 0)), (1, .int x1)]) (X : Option (CS × Int32)) (hF : X = cPageBoard_run st x1) : W p l e rm_cPageBoard_run s m args below meth c H locs 0 0 (vx_MQ below (xQ (gD g) vwCl (cty g) (cw g) A X) (xX "java/lang/IllegalArgumentException" (gD g) vwCl (cty g) (cw g) A st X) args s 1 6 A) (F0 m 0 ls []) := by
  obtain ⟨hx, hb, hr, hml, hown, htsX, hlocks, hK, hA, hZ, hzo⟩ := id CX
  have hts : ∀ w ∈ wq_X10_run, w.before args s = true := fun w h => htsX w ((List.mem_cons.mp h).elim (fun q => List.mem_cons.mpr (Or.inl q)) (fun q => List.mem_cons_of_mem _ (wAll_in q)))
  have C : cX p s m args meth c A cX10_run (some .int) 4 RX10 wq_X10_run (gD g) vwCl (cty g) (cz g) := ⟨hx, hb, hr, hml, hown, hts, hlocks, hK, hA, hZ, hzo⟩
  unfold cPageBoard_run at hF
  refine lv_iload_n hx hb dX10_run_0 rfl (lv_at hl 1 rfl) ?_
  refine lv_iconst (v := (1 : Int32)) hx hb dX10_run_1 (by decide) ?_
  refine lv_icmp_lt (tgt := 12) hx hb dX10_run_2 (by decide) (fun c_2 => ?_) (fun c_2 => ?_)
  · have hF := hF.trans (if_pos c_2)
    exact thr1 hl0 CX hno hT hI hF hl.1 mw296 dX10_run_12 dX10_run_15 dX10_run_16 dX10_run_18 dX10_run_21 (Nat.le_of_ble_eq_true rfl) (Nat.le_of_ble_eq_true rfl) (Nat.le_of_ble_eq_true rfl) (Nat.le_of_ble_eq_true rfl)
  · have hF := hF.trans (if_neg c_2)
    refine lv_iload_n hx hb dX10_run_5 rfl (lv_at hl 1 rfl) ?_
    refine lv_sipush (v := (20000 : Int32)) hx hb dX10_run_6 (by decide) ?_
    refine lv_icmp_le (tgt := 22) hx hb dX10_run_9 (by decide) (fun c_9 => ?_) (fun c_9 => ?_)
    · have hF := hF.trans (if_pos c_9)
      exact thr_ok hF (k_cPageBoard_run_b22 g C st x1 H locs ls hI (lv_sub hl [0, 1] rfl) _ rfl)
    · have hF := hF.trans (if_neg c_9)
      exact thr1 hl0 CX hno hT hI hF hl.1 mw296 dX10_run_12 dX10_run_15 dX10_run_16 dX10_run_18 dX10_run_21 (Nat.le_of_ble_eq_true rfl) (Nat.le_of_ble_eq_true rfl) (Nat.le_of_ble_eq_true rfl) (Nat.le_of_ble_eq_true rfl)
set_option maxHeartbeats 4000000 in
set_option maxRecDepth 100000 in
theorem c_cPageBoard_run (l : Launch) (hl0 : l.stackTraces = false) (g : Gm) (st : CS) (x1 : Int32) : Mx "java/lang/IllegalArgumentException" 131 "not 1 .. 20000 TICKS" l yX10_run wqx_X10_run rm_cPageBoard_run (gD g) vwCl (cty g) (cw g) (cz g) [.ref (gad g 0), .int x1] st (cPageBoard_run st x1) := by
  intro sz
  refine vx_ofW (cc := cX10_run) (maxL := 4) (ret := (some .int)) (by decide) rfl ?_
  intro p e s m args below meth c s₁ B hml hno hv
  obtain ⟨rfl, ⟨hsz, hP, hK, hD0, hZ⟩, hT⟩ := hv
  subst hsz
  have hl := lv_entry ([.ref (gad g 0), .int x1]) (n := 4) (Nat.le_of_ble_eq_true rfl)
  rw [lg_entry_eq]
  generalize (lg_sl ([.ref (gad g 0), .int x1]) ++ List.replicate (4 - (lg_sl ([.ref (gad g 0), .int x1])).length) Slot.unset).toArray = ls at hl ⊢
  exact k_cPageBoard_run g ⟨B.exec, B.bytes, B.returns, hml, findClass_of_methodNamed B.named, atoms_spec (ws := wqx_X10_run) B.pre, B.notSynchronized, hK, fun q h => Or.inr h, hZ, cz_ok g⟩ hl0 hno hT st x1 _ _ ls ⟨hP, hD0.self, va_S.rf⟩ hl _ rfl
