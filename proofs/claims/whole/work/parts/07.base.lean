/-! BASE: the state of a system as numbers, worlds as functions of it, contracts over one world, the rows of calls. -/
abbrev CS : Type := (Nat → Int32) × (Nat → Int64) × (Nat → Nat → Int32) × (Nat → Nat → Int64)
def gI (st : CS) (k : Nat) : Int32 := st.1 k
def gL (st : CS) (k : Nat) : Int64 := st.2.1 k
def gA (st : CS) (k : Nat) : Nat → Int32 := st.2.2.1 k
def gB (st : CS) (k : Nat) : Nat → Int64 := st.2.2.2 k
def sI (st : CS) (k : Nat) (v : Int32) : CS := (fun j => if j = k then v else st.1 j, st.2)
def sL (st : CS) (k : Nat) (v : Int64) : CS := (st.1, fun j => if j = k then v else st.2.1 j, st.2.2)
def sA (st : CS) (k : Nat) (f : Nat → Int32) : CS := (st.1, st.2.1, fun j => if j = k then f else st.2.2.1 j, st.2.2.2)
def sB (st : CS) (k : Nat) (f : Nat → Int64) : CS := (st.1, st.2.1, st.2.2.1, fun j => if j = k then f else st.2.2.2 j)
abbrev zT : Type := (Nat → Prop) → State → Heap → Prop
/-- what is given of statics stays: over a move of the tables, over writes inside A, for a smaller A -/
def zOk (Z : zT) : Prop := (∀ (A : Nat → Prop) (u U : State) (H : Heap), u.vm.Alike U.vm → Z A u H → Z A U H) ∧ (∀ (A : Nat → Prop) (U : State) (H H1 : Heap), Z A U H → (∀ a : Nat, a < H.size → ¬ A a → H1[a]? = H[a]?) → Z A U H1) ∧ (∀ (A B : Nat → Prop) (U : State) (H : Heap), Z A U H → (∀ q, B q → A q) → Z B U H)
section BaseX
variable {p : Program} {l : Launch} {e : Env} {R : Room} {s : State} {m : MethodId} {args : Array Value} {below : List Frame} {meth : Method} {c : Code} {H : Heap} {locs : List Loc} {Q : State → Prop}
variable {cc : ByteArray} {pc : Nat} {ls : Array Slot} {rest : List Value}
/-- a contract's start -/
def cP (D : va_G) (cl : List vw_C) (ty : List (ClassId × FieldType)) (w : CS → va_W) (Z : zT) (sz : Nat) (st : CS) (U : State) : Prop :=
  U.heap.size = sz ∧ va_P D cl (w st) U.heap ∧ va_K D cl ty U ∧ va_D (fun _ => True) (w st) ∧ Z (va_A (w st) sz) U U.heap
/-- the world behind a contract -/
def cB (D : va_G) (cl : List vw_C) (ty : List (ClassId × FieldType)) (w : CS → va_W) (A : Nat → Prop) (st : CS) (t : State) : Prop :=
  va_P D cl (w st) t.heap ∧ va_K D cl ty t ∧ va_D A (w st)
abbrev cQi (D : va_G) (cl : List vw_C) (ty : List (ClassId × FieldType)) (w : CS → va_W) (A : Nat → Prop) (st : CS) (r : Int32) := va_Qi (fun (r' : Int32) (_ : Unit) => r' = r) (fun _ t => cB D cl ty w A st t) A
abbrev cQl (D : va_G) (cl : List vw_C) (ty : List (ClassId × FieldType)) (w : CS → va_W) (A : Nat → Prop) (st : CS) (r : Int64) := va_Ql (fun (r' : Int64) (_ : Unit) => r' = r) (fun _ t => cB D cl ty w A st t) A
abbrev cQv (D : va_G) (cl : List vw_C) (ty : List (ClassId × FieldType)) (w : CS → va_W) (A : Nat → Prop) (st : CS) := va_Qv (fun (_ : Unit) => True) (fun _ t => cB D cl ty w A st t) A
/-- the method y, called with av in the state st, leaves st' and answers r -/
def Mi (l : Launch) (y : MethodName) (ws : List Cond) (rm : Room) (D : va_G) (cl : List vw_C) (ty : List (ClassId × FieldType)) (w : CS → va_W) (Z : zT) (av : List Value) (st st' : CS) (r : Int32) : Prop :=
  ∀ sz : Nat, Met l y ws rm (va_Pc av (cP D cl ty w Z sz st)) (cQi D cl ty w (va_A (w st) sz) st' r) 0 0 (va_A (w st) sz)
def Ml (l : Launch) (y : MethodName) (ws : List Cond) (rm : Room) (D : va_G) (cl : List vw_C) (ty : List (ClassId × FieldType)) (w : CS → va_W) (Z : zT) (av : List Value) (st st' : CS) (r : Int64) : Prop :=
  ∀ sz : Nat, Met l y ws rm (va_Pc av (cP D cl ty w Z sz st)) (cQl D cl ty w (va_A (w st) sz) st' r) 0 0 (va_A (w st) sz)
def Mv (l : Launch) (y : MethodName) (ws : List Cond) (rm : Room) (D : va_G) (cl : List vw_C) (ty : List (ClassId × FieldType)) (w : CS → va_W) (Z : zT) (av : List Value) (st st' : CS) : Prop :=
  ∀ sz : Nat, Met l y ws rm (va_Pc av (cP D cl ty w Z sz st)) (cQv D cl ty w (va_A (w st) sz) st') 0 0 (va_A (w st) sz)
/-- what holds all along a walk -/
def cX (p : Program) (s : State) (m : MethodId) (args : Array Value) (meth : Method) (c : Code) (A : Nat → Prop) (cc : ByteArray) (ret : Option FieldType) (maxL : Nat) (own : String) (Ts : List Cond) (D : va_G) (cl : List vw_C) (ty : List (ClassId × FieldType)) (Z : zT) : Prop :=
  p.tables.exec = Jvm.exec ∧ c.code = cc ∧ meth.sig.returnType = ret ∧ c.maxLocals = maxL ∧ s.vm.findClass own = some m.cls ∧ (∀ w ∈ Ts, w.before args s = true) ∧ meth.locks = false ∧ va_K D cl ty s ∧ (∀ q : Nat, s.heap.size ≤ q → A q) ∧ Z A s s.heap ∧ zOk Z
/-- the world now -/
def cI (D : va_G) (cl : List vw_C) (w : CS → va_W) (A : Nat → Prop) (s : State) (st : CS) (H : Heap) (locs : List Loc) : Prop := va_P D cl (w st) H ∧ va_D A (w st) ∧ va_S A s.heap H locs
variable {D : va_G} {cl : List vw_C} {ty : List (ClassId × FieldType)} {w : CS → va_W} {Z : zT} {A : Nat → Prop} {st st' : CS} {y : MethodName} {ws Ts : List Cond} {rm : Room} {ret reto : Option FieldType} {maxL maxM n index : Nat} {own C : String} {bytes : ByteArray}
abbrev Gm : Type := (Nat → ClassId) × (Nat → Nat → Nat) × (Nat → Nat) × (Nat → ClassId) × Nat
abbrev gD (g : Gm) : va_G := (g.1, g.2.1)
abbrev gad (g : Gm) (k : Nat) : Nat := g.2.2.1 k
abbrev gca (g : Gm) (k : Nat) : ClassId := g.2.2.2.1 k
abbrev gtS (g : Gm) : Nat := g.2.2.2.2
def ushr (x y : Int32) : Int32 := (x.toUInt32 >>> (y.toUInt32 &&& Int32.toUInt32 31)).toInt32
def ulshr (x : Int64) (y : Int32) : Int64 := (x.toUInt64 >>> (y.toInt64.toUInt64 &&& Int64.toUInt64 63)).toInt64
theorem cFree (hA : ∀ q : Nat, s.heap.size ≤ q → A q) (hI : cI D cl w A s st H locs) : ∀ q, va_A (w st) H.size q → A q := by
  intro q h
  rcases h with ⟨k, e, hk⟩ | h
  · exact hI.2.1.2 k _ hk
  · exact hA q (Nat.le_trans hI.2.2.1 h)
theorem cPre (hK : va_K D cl ty s) (hA : ∀ q : Nat, s.heap.size ≤ q → A q) (hZ : Z A s s.heap) (hzo : zOk Z) (hI : cI D cl w A s st H locs) : ∀ U : State, U.heap = H → s.WarmedH U.vm → cP D cl ty w Z H.size st U := by
  intro U hU hW
  refine ⟨by rw [hU], by rw [hU]; exact hI.1, va_K.moved hW.alike hK, hI.2.1.weaken (fun _ _ _ _ => trivial), ?_⟩
  rw [hU]
  exact hzo.2.2 A _ _ _ (hzo.2.1 A U s.heap H (hzo.1 A s U s.heap hW.alike hZ) hI.2.2.2.1) (cFree hA hI)
theorem cBlind (hzo : zOk Z) (av : List Value) (sz : Nat) : FrameBlind (va_Pc av (cP D cl ty w Z sz st)) := by
  intro a U g mk q
  obtain ⟨q0, q1, qP, qK, qD, qZ⟩ := q
  exact ⟨q0, q1, qP, va_K.moved (u := U) (U := U.calling g mk a) (Vm.Alike.refl U.vm) qK, qD, hzo.1 _ U (U.calling g mk a) _ (Vm.Alike.refl U.vm) qZ⟩
theorem cx_Vi {b : Addr} {As stk : List Value} {r : Int32} (Cx : cX p s m args meth c A cc ret maxL own Ts D cl ty Z) (hM : Mi l y ws rm D cl ty w Z (.ref b :: As) st st' r) (cw : CallW R s args own C index y bytes maxM reto ws rm 0 0 n) (hrec : ∃ cellB : Cell, H[b]? = some cellB ∧ cellB.vm.isStatics = false ∧ s.vm.findClass C = some cellB.cls) (hI : cI D cl w A s st H locs) (hn : As.length = n) (hl : ls.size = maxL) (hstk : stk = As.reverse ++ .ref b :: rest) (hW : (rest.map fun v => v.category).sum ≤ 8) (hdg : decode cc pc = .ok (.invokevirtual index, 3))
    (kk : ∀ (H1 : Heap) (locs1 : List Loc), cI D cl w A s st' H1 locs1 → W p l e R s m args below meth c H1 locs1 0 0 Q (F0 m (pc + 3) ls (.int r :: rest))) : W p l e R s m args below meth c H locs 0 0 Q (F0 m pc ls stk) := by
  obtain ⟨hx, hb, hr, hml, hown, hts, hlocks, hK, hA, hZ, hzo⟩ := Cx
  subst hstk
  have hFc := cFree hA hI
  refine va_calli (va_runV (As := As) (rest := rest) ⟨hx, hb, hml, hown, hts⟩ (hM H.size) cw ⟨cBlind hzo _ _, hrec, fun U hU hW => ⟨rfl, cPre hK hA hZ hzo hI U hU hW⟩⟩ rfl hn hl rfl (lv_room hW) hdg ⟨Nat.zero_le _, Nat.zero_le _⟩) hI.2.2 (fun q _ h => hFc q h) hFc (fun r_1 u t H1 locs1 ht hvm hw hB hz1 hk1 hS1 => ?_)
  subst hw
  obtain ⟨q1, q2, q3⟩ := hB
  rw [ht] at q1
  exact kk H1 locs1 ⟨q1, q3.weaken (fun _ _ _ h => hFc _ h), hS1⟩
theorem cx_Vl {b : Addr} {As stk : List Value} {r : Int64} (Cx : cX p s m args meth c A cc ret maxL own Ts D cl ty Z) (hM : Ml l y ws rm D cl ty w Z (.ref b :: As) st st' r) (cw : CallW R s args own C index y bytes maxM reto ws rm 0 0 n) (hrec : ∃ cellB : Cell, H[b]? = some cellB ∧ cellB.vm.isStatics = false ∧ s.vm.findClass C = some cellB.cls) (hI : cI D cl w A s st H locs) (hn : As.length = n) (hl : ls.size = maxL) (hstk : stk = As.reverse ++ .ref b :: rest) (hW : (rest.map fun v => v.category).sum ≤ 8) (hdg : decode cc pc = .ok (.invokevirtual index, 3))
    (kk : ∀ (H1 : Heap) (locs1 : List Loc), cI D cl w A s st' H1 locs1 → W p l e R s m args below meth c H1 locs1 0 0 Q (F0 m (pc + 3) ls (.long r :: rest))) : W p l e R s m args below meth c H locs 0 0 Q (F0 m pc ls stk) := by
  obtain ⟨hx, hb, hr, hml, hown, hts, hlocks, hK, hA, hZ, hzo⟩ := Cx
  subst hstk
  have hFc := cFree hA hI
  refine va_calll (va_runV (As := As) (rest := rest) ⟨hx, hb, hml, hown, hts⟩ (hM H.size) cw ⟨cBlind hzo _ _, hrec, fun U hU hW => ⟨rfl, cPre hK hA hZ hzo hI U hU hW⟩⟩ rfl hn hl rfl (lv_room hW) hdg ⟨Nat.zero_le _, Nat.zero_le _⟩) hI.2.2 (fun q _ h => hFc q h) hFc (fun r_1 u t H1 locs1 ht hvm hw hB hz1 hk1 hS1 => ?_)
  subst hw
  obtain ⟨q1, q2, q3⟩ := hB
  rw [ht] at q1
  exact kk H1 locs1 ⟨q1, q3.weaken (fun _ _ _ h => hFc _ h), hS1⟩
theorem cx_Vv {b : Addr} {As stk : List Value} (Cx : cX p s m args meth c A cc ret maxL own Ts D cl ty Z) (hM : Mv l y ws rm D cl ty w Z (.ref b :: As) st st') (cw : CallW R s args own C index y bytes maxM reto ws rm 0 0 n) (hrec : ∃ cellB : Cell, H[b]? = some cellB ∧ cellB.vm.isStatics = false ∧ s.vm.findClass C = some cellB.cls) (hI : cI D cl w A s st H locs) (hn : As.length = n) (hl : ls.size = maxL) (hstk : stk = As.reverse ++ .ref b :: rest) (hW : (rest.map fun v => v.category).sum ≤ 8) (hdg : decode cc pc = .ok (.invokevirtual index, 3))
    (kk : ∀ (H1 : Heap) (locs1 : List Loc), cI D cl w A s st' H1 locs1 → W p l e R s m args below meth c H1 locs1 0 0 Q (F0 m (pc + 3) ls rest)) : W p l e R s m args below meth c H locs 0 0 Q (F0 m pc ls stk) := by
  obtain ⟨hx, hb, hr, hml, hown, hts, hlocks, hK, hA, hZ, hzo⟩ := Cx
  subst hstk
  have hFc := cFree hA hI
  refine va_callv (va_runV (As := As) (rest := rest) ⟨hx, hb, hml, hown, hts⟩ (hM H.size) cw ⟨cBlind hzo _ _, hrec, fun U hU hW => ⟨rfl, cPre hK hA hZ hzo hI U hU hW⟩⟩ rfl hn hl rfl (lv_room hW) hdg ⟨Nat.zero_le _, Nat.zero_le _⟩) hI.2.2 (fun q _ h => hFc q h) hFc (fun u t H1 locs1 ht hvm hw hB hz1 hk1 hS1 => ?_)
  skip
  obtain ⟨q1, q2, q3⟩ := hB
  rw [ht] at q1
  exact kk H1 locs1 ⟨q1, q3.weaken (fun _ _ _ h => hFc _ h), hS1⟩
theorem cx_Si {As stk : List Value} {r : Int32} (Cx : cX p s m args meth c A cc ret maxL own Ts D cl ty Z) (hM : Mi l y ws rm D cl ty w Z As st st' r) (cw : CallB R s args own index y bytes maxM reto ws rm 0 0 n ∧ (Cond.static y).before args s = true) (hI : cI D cl w A s st H locs) (hn : As.length = n) (hl : ls.size = maxL) (hstk : stk = As.reverse ++ rest) (hW : (rest.map fun v => v.category).sum ≤ 8) (hdg : decode cc pc = .ok (.invokestatic index, 3))
    (kk : ∀ (H1 : Heap) (locs1 : List Loc), cI D cl w A s st' H1 locs1 → W p l e R s m args below meth c H1 locs1 0 0 Q (F0 m (pc + 3) ls (.int r :: rest))) : W p l e R s m args below meth c H locs 0 0 Q (F0 m pc ls stk) := by
  obtain ⟨hx, hb, hr, hml, hown, hts, hlocks, hK, hA, hZ, hzo⟩ := Cx
  subst hstk
  have hFc := cFree hA hI
  refine va_calli (va_runS (As := As) (rest := rest) ⟨hx, hb, hml, hown, hts⟩ (hM H.size) cw ⟨cBlind hzo _ _, fun U hU hW => ⟨rfl, cPre hK hA hZ hzo hI U hU hW⟩⟩ rfl hn hl rfl (lv_room hW) hdg ⟨Nat.zero_le _, Nat.zero_le _⟩) hI.2.2 (fun q _ h => hFc q h) hFc (fun r_1 u t H1 locs1 ht hvm hw hB hz1 hk1 hS1 => ?_)
  subst hw
  obtain ⟨q1, q2, q3⟩ := hB
  rw [ht] at q1
  exact kk H1 locs1 ⟨q1, q3.weaken (fun _ _ _ h => hFc _ h), hS1⟩
theorem cx_Sl {As stk : List Value} {r : Int64} (Cx : cX p s m args meth c A cc ret maxL own Ts D cl ty Z) (hM : Ml l y ws rm D cl ty w Z As st st' r) (cw : CallB R s args own index y bytes maxM reto ws rm 0 0 n ∧ (Cond.static y).before args s = true) (hI : cI D cl w A s st H locs) (hn : As.length = n) (hl : ls.size = maxL) (hstk : stk = As.reverse ++ rest) (hW : (rest.map fun v => v.category).sum ≤ 8) (hdg : decode cc pc = .ok (.invokestatic index, 3))
    (kk : ∀ (H1 : Heap) (locs1 : List Loc), cI D cl w A s st' H1 locs1 → W p l e R s m args below meth c H1 locs1 0 0 Q (F0 m (pc + 3) ls (.long r :: rest))) : W p l e R s m args below meth c H locs 0 0 Q (F0 m pc ls stk) := by
  obtain ⟨hx, hb, hr, hml, hown, hts, hlocks, hK, hA, hZ, hzo⟩ := Cx
  subst hstk
  have hFc := cFree hA hI
  refine va_calll (va_runS (As := As) (rest := rest) ⟨hx, hb, hml, hown, hts⟩ (hM H.size) cw ⟨cBlind hzo _ _, fun U hU hW => ⟨rfl, cPre hK hA hZ hzo hI U hU hW⟩⟩ rfl hn hl rfl (lv_room hW) hdg ⟨Nat.zero_le _, Nat.zero_le _⟩) hI.2.2 (fun q _ h => hFc q h) hFc (fun r_1 u t H1 locs1 ht hvm hw hB hz1 hk1 hS1 => ?_)
  subst hw
  obtain ⟨q1, q2, q3⟩ := hB
  rw [ht] at q1
  exact kk H1 locs1 ⟨q1, q3.weaken (fun _ _ _ h => hFc _ h), hS1⟩
theorem cx_Sv {As stk : List Value} (Cx : cX p s m args meth c A cc ret maxL own Ts D cl ty Z) (hM : Mv l y ws rm D cl ty w Z As st st') (cw : CallB R s args own index y bytes maxM reto ws rm 0 0 n ∧ (Cond.static y).before args s = true) (hI : cI D cl w A s st H locs) (hn : As.length = n) (hl : ls.size = maxL) (hstk : stk = As.reverse ++ rest) (hW : (rest.map fun v => v.category).sum ≤ 8) (hdg : decode cc pc = .ok (.invokestatic index, 3))
    (kk : ∀ (H1 : Heap) (locs1 : List Loc), cI D cl w A s st' H1 locs1 → W p l e R s m args below meth c H1 locs1 0 0 Q (F0 m (pc + 3) ls rest)) : W p l e R s m args below meth c H locs 0 0 Q (F0 m pc ls stk) := by
  obtain ⟨hx, hb, hr, hml, hown, hts, hlocks, hK, hA, hZ, hzo⟩ := Cx
  subst hstk
  have hFc := cFree hA hI
  refine va_callv (va_runS (As := As) (rest := rest) ⟨hx, hb, hml, hown, hts⟩ (hM H.size) cw ⟨cBlind hzo _ _, fun U hU hW => ⟨rfl, cPre hK hA hZ hzo hI U hU hW⟩⟩ rfl hn hl rfl (lv_room hW) hdg ⟨Nat.zero_le _, Nat.zero_le _⟩) hI.2.2 (fun q _ h => hFc q h) hFc (fun u t H1 locs1 ht hvm hw hB hz1 hk1 hS1 => ?_)
  skip
  obtain ⟨q1, q2, q3⟩ := hB
  rw [ht] at q1
  exact kk H1 locs1 ⟨q1, q3.weaken (fun _ _ _ h => hFc _ h), hS1⟩
/-- ends -/
theorem cx_iret {r X : Int32} {stX : CS} (Cx : cX p s m args meth c A cc (some .int) maxL own Ts D cl ty Z) (hI : cI D cl w A s st H locs) (h1 : stX = st) (h2 : X = r) (hdg : decode cc pc = .ok (.ireturn, 1)) : W p l e R s m args below meth c H locs 0 0 (MQ below (cQi D cl ty w A stX X) args s 0 0 A) (F0 m pc ls [.int r]) := by
  obtain ⟨hx, hb, hr, hml, hown, hts, hlocks, hK, hA, hZ, hzo⟩ := Cx
  subst h1; subst h2
  exact W.iret hx hb hr (fun t ht hW => ⟨⟨_, (), rfl, rfl, by rw [ht]; exact hI.1, va_K.moved hW.alike hK, hI.2.1⟩, hI.2.2.F ht⟩) hI.2.2.2.2 hdg
theorem cx_zret {r X : Int32} {stX : CS} (Cx : cX p s m args meth c A cc (some .boolean) maxL own Ts D cl ty Z) (hI : cI D cl w A s st H locs) (h1 : stX = st) (h2 : X = r) (hn : narrow .boolean (.int r) = .int r) (hdg : decode cc pc = .ok (.ireturn, 1)) : W p l e R s m args below meth c H locs 0 0 (MQ below (cQi D cl ty w A stX X) args s 0 0 A) (F0 m pc ls [.int r]) := by
  obtain ⟨hx, hb, hr, hml, hown, hts, hlocks, hK, hA, hZ, hzo⟩ := Cx
  subst h1; subst h2
  exact W.zret hx hb hr hn (fun t ht hW => ⟨⟨_, (), rfl, rfl, by rw [ht]; exact hI.1, va_K.moved hW.alike hK, hI.2.1⟩, hI.2.2.F ht⟩) hI.2.2.2.2 hdg
theorem cx_lret {r X : Int64} {stX : CS} (Cx : cX p s m args meth c A cc (some .long) maxL own Ts D cl ty Z) (hI : cI D cl w A s st H locs) (h1 : stX = st) (h2 : X = r) (hdg : decode cc pc = .ok (.lreturn, 1)) : W p l e R s m args below meth c H locs 0 0 (MQ below (cQl D cl ty w A stX X) args s 0 0 A) (F0 m pc ls [.long r]) := by
  obtain ⟨hx, hb, hr, hml, hown, hts, hlocks, hK, hA, hZ, hzo⟩ := Cx
  subst h1; subst h2
  exact W.lret hx hb hr (fun t ht hW => ⟨⟨_, (), rfl, rfl, by rw [ht]; exact hI.1, va_K.moved hW.alike hK, hI.2.1⟩, hI.2.2.F ht⟩) hI.2.2.2.2 hdg
theorem cx_vret {stX : CS} (Cx : cX p s m args meth c A cc none maxL own Ts D cl ty Z) (hI : cI D cl w A s st H locs) (h1 : stX = st) (hdg : decode cc pc = .ok (.return_, 1)) : W p l e R s m args below meth c H locs 0 0 (MQ below (cQv D cl ty w A stX) args s 0 0 A) (F0 m pc ls []) := by
  obtain ⟨hx, hb, hr, hml, hown, hts, hlocks, hK, hA, hZ, hzo⟩ := Cx
  subst h1
  exact W.vret hx hb hr (fun t ht hW => ⟨⟨(), rfl, trivial, by rw [ht]; exact hI.1, va_K.moved hW.alike hK, hI.2.1⟩, hI.2.2.F ht⟩) hI.2.2.2.2 hdg
theorem nar_b {x : Int32} (h : x = 0 ∨ x = 1) : narrow .boolean (.int x) = .int x := by rcases h with rfl | rfl <;> rfl
theorem fit_b {x : Int32} (h : x = 0 ∨ x = 1) : fits .boolean (.int x) = true := by rcases h with rfl | rfl <;> rfl
end BaseX
