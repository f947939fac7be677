/-! LAW, rows of its own: worlds side by side -/
theorem dcong {A : Nat → Prop} {ws ws' : va_W} (h : ws.map Prod.fst = ws'.map Prod.fst) (hD : va_D A ws) : va_D A ws' := by
  have get : ∀ (i : Nat) (p : Nat × va_E), ws'[i]? = some p → ∃ p', ws[i]? = some p' ∧ p'.1 = p.1 := by
    intro i p hp
    have h1 : (ws'.map Prod.fst)[i]? = some p.1 := by rw [List.getElem?_map, hp]; rfl
    rw [← h, List.getElem?_map] at h1
    cases hq : ws[i]? with
    | none => rw [hq] at h1; cases h1
    | some p' => rw [hq] at h1; exact ⟨p', rfl, Option.some.inj h1⟩
  refine ⟨fun i j p q hi hj e => ?_, fun k q hk => ?_⟩
  · obtain ⟨p', a, b⟩ := get i p hi
    obtain ⟨q', c, d⟩ := get j q hj
    exact hD.1 i j p' q' a c (by rw [b, d, e])
  · obtain ⟨q', a, b⟩ := get k q hk
    rw [← b]
    exact hD.2 k q' a
theorem dleft {A : Nat → Prop} {a b : va_W} (hD : va_D A (a ++ b)) : va_D A a := by
  have get : ∀ (i : Nat) (p : Nat × va_E), a[i]? = some p → (a ++ b)[i]? = some p := fun i p hp => by
    rw [List.getElem?_append_left (List.getElem?_eq_some_iff.mp hp).1]; exact hp
  exact ⟨fun i j p q hi hj e => hD.1 i j p q (get i p hi) (get j q hj) e, fun k q hk => hD.2 k q (get k q hk)⟩
theorem keepO {D : va_G} {cl : List vw_C} {A : Nat → Prop} {wc wo : va_W} {H H1 : Heap} (hD : va_D A (wc ++ wo)) (hPo : va_P D cl wo H) (hk : ∀ q : Nat, q < H.size → ¬ va_A wc H.size q → H1[q]? = H[q]?) : va_P D cl wo H1 := by
  refine hPo.kept (fun k q hq => hk q.1 (hPo k q hq).lt ?_)
  rintro (⟨i, e, hi⟩ | h)
  · have hil := (List.getElem?_eq_some_iff.mp hi).1
    have h1 : (wc ++ wo)[i]? = some (q.1, e) := by rw [List.getElem?_append_left hil]; exact hi
    have h2 : (wc ++ wo)[wc.length + k]? = some q := by
      rw [List.getElem?_append_right (Nat.le_add_right _ _), Nat.add_sub_cancel_left]
      exact hq
    have h3 := hD.1 _ _ _ _ h1 h2 rfl
    omega
  · exact absurd (hPo k q hq).lt (Nat.not_lt.mpr h)
section LawX
variable {p : Program} {l : Launch} {e : Env} {R : Room} {s : State} {m : MethodId} {args : Array Value} {below : List Frame} {meth : Method} {c : Code} {H : Heap} {locs : List Loc} {cells slots : Nat} {Q : State → Prop}
variable {cc : ByteArray} {pc nL : Nat} {ls : Array Slot} {rest : List Value}
variable {D : va_G} {cl : List vw_C} {ty : List (ClassId × FieldType)} {w : CS → va_W} {Z : zT} {A : Nat → Prop} {st st' : CS} {y : MethodName} {ws Ts : List Cond} {rm : Room} {reto : Option FieldType} {maxM n index : Nat} {own C : String} {bytes : ByteArray}
theorem cyPre (hK : va_K D cl ty s) (hA : ∀ q : Nat, s.heap.size ≤ q → A q) (hZ : Z A s s.heap) (hzo : zOk Z) (hP : va_P D cl (w st) H) (hD : va_D A (w st)) (hS : va_S A s.heap H locs) : (∀ q, va_A (w st) H.size q → A q) ∧ ∀ U : State, U.heap = H → s.WarmedH U.vm → cP D cl ty w Z H.size st U :=
  ⟨cFree hA ⟨hP, hD, hS⟩, cPre hK hA hZ hzo (⟨hP, hD, hS⟩ : cI D cl w A s st H locs)⟩
theorem cy_Vi {b : Addr} {As stk : List Value} {r : Int32} (Sx : CallFix p m c cc nL s args Ts own) (hM : Mi l y ws rm D cl ty w Z (.ref b :: As) st st' r) (cw : CallW R s args own C index y bytes maxM reto ws rm 0 0 n) (hrec : ∃ cellB : Cell, H[b]? = some cellB ∧ cellB.vm.isStatics = false ∧ s.vm.findClass C = some cellB.cls) (hK : va_K D cl ty s) (hA : ∀ q : Nat, s.heap.size ≤ q → A q) (hZ : Z A s s.heap) (hzo : zOk Z) (hP : va_P D cl (w st) H) (hD : va_D A (w st)) (hS : va_S A s.heap H locs) (hn : As.length = n) (hl : ls.size = nL) (hstk : stk = As.reverse ++ .ref b :: rest) (hW : (rest.map fun v => v.category).sum ≤ 8) (hdg : decode cc pc = .ok (.invokevirtual index, 3)) (hf : cells ≤ R.cells ∧ slots ≤ R.slots)
    (kk : ∀ (H1 : Heap) (locs1 : List Loc), va_P D cl (w st') H1 → (∀ q : Nat, q < H.size → ¬ va_A (w st) H.size q → H1[q]? = H[q]?) → va_S A s.heap H1 locs1 → W p l e R s m args below meth c H1 locs1 cells slots Q (F0 m (pc + 3) ls (.int r :: rest))) : W p l e R s m args below meth c H locs cells slots Q (F0 m pc ls stk) := by
  obtain ⟨hFc, hpre⟩ := cyPre hK hA hZ hzo hP hD hS
  subst hstk
  refine va_calli (va_runV (As := As) (rest := rest) Sx (hM H.size) cw ⟨cBlind hzo _ _, hrec, fun U hU hW => ⟨rfl, hpre U hU hW⟩⟩ rfl hn hl rfl (lv_room hW) hdg hf) hS (fun q _ h => hFc q h) hFc (fun r_1 u t H1 locs1 ht hvm hw hB hz1 hk1 hS1 => ?_)
  subst hw
  obtain ⟨q1, q2, q3⟩ := hB
  rw [ht] at q1
  exact kk H1 locs1 q1 hk1 hS1
theorem cy_Vl {b : Addr} {As stk : List Value} {r : Int64} (Sx : CallFix p m c cc nL s args Ts own) (hM : Ml l y ws rm D cl ty w Z (.ref b :: As) st st' r) (cw : CallW R s args own C index y bytes maxM reto ws rm 0 0 n) (hrec : ∃ cellB : Cell, H[b]? = some cellB ∧ cellB.vm.isStatics = false ∧ s.vm.findClass C = some cellB.cls) (hK : va_K D cl ty s) (hA : ∀ q : Nat, s.heap.size ≤ q → A q) (hZ : Z A s s.heap) (hzo : zOk Z) (hP : va_P D cl (w st) H) (hD : va_D A (w st)) (hS : va_S A s.heap H locs) (hn : As.length = n) (hl : ls.size = nL) (hstk : stk = As.reverse ++ .ref b :: rest) (hW : (rest.map fun v => v.category).sum ≤ 8) (hdg : decode cc pc = .ok (.invokevirtual index, 3)) (hf : cells ≤ R.cells ∧ slots ≤ R.slots)
    (kk : ∀ (H1 : Heap) (locs1 : List Loc), va_P D cl (w st') H1 → (∀ q : Nat, q < H.size → ¬ va_A (w st) H.size q → H1[q]? = H[q]?) → va_S A s.heap H1 locs1 → W p l e R s m args below meth c H1 locs1 cells slots Q (F0 m (pc + 3) ls (.long r :: rest))) : W p l e R s m args below meth c H locs cells slots Q (F0 m pc ls stk) := by
  obtain ⟨hFc, hpre⟩ := cyPre hK hA hZ hzo hP hD hS
  subst hstk
  refine va_calll (va_runV (As := As) (rest := rest) Sx (hM H.size) cw ⟨cBlind hzo _ _, hrec, fun U hU hW => ⟨rfl, hpre U hU hW⟩⟩ rfl hn hl rfl (lv_room hW) hdg hf) hS (fun q _ h => hFc q h) hFc (fun r_1 u t H1 locs1 ht hvm hw hB hz1 hk1 hS1 => ?_)
  subst hw
  obtain ⟨q1, q2, q3⟩ := hB
  rw [ht] at q1
  exact kk H1 locs1 q1 hk1 hS1
theorem cy_Vv {b : Addr} {As stk : List Value} (Sx : CallFix p m c cc nL s args Ts own) (hM : Mv l y ws rm D cl ty w Z (.ref b :: As) st st') (cw : CallW R s args own C index y bytes maxM reto ws rm 0 0 n) (hrec : ∃ cellB : Cell, H[b]? = some cellB ∧ cellB.vm.isStatics = false ∧ s.vm.findClass C = some cellB.cls) (hK : va_K D cl ty s) (hA : ∀ q : Nat, s.heap.size ≤ q → A q) (hZ : Z A s s.heap) (hzo : zOk Z) (hP : va_P D cl (w st) H) (hD : va_D A (w st)) (hS : va_S A s.heap H locs) (hn : As.length = n) (hl : ls.size = nL) (hstk : stk = As.reverse ++ .ref b :: rest) (hW : (rest.map fun v => v.category).sum ≤ 8) (hdg : decode cc pc = .ok (.invokevirtual index, 3)) (hf : cells ≤ R.cells ∧ slots ≤ R.slots)
    (kk : ∀ (H1 : Heap) (locs1 : List Loc), va_P D cl (w st') H1 → (∀ q : Nat, q < H.size → ¬ va_A (w st) H.size q → H1[q]? = H[q]?) → va_S A s.heap H1 locs1 → W p l e R s m args below meth c H1 locs1 cells slots Q (F0 m (pc + 3) ls rest)) : W p l e R s m args below meth c H locs cells slots Q (F0 m pc ls stk) := by
  obtain ⟨hFc, hpre⟩ := cyPre hK hA hZ hzo hP hD hS
  subst hstk
  refine va_callv (va_runV (As := As) (rest := rest) Sx (hM H.size) cw ⟨cBlind hzo _ _, hrec, fun U hU hW => ⟨rfl, hpre U hU hW⟩⟩ rfl hn hl rfl (lv_room hW) hdg hf) hS (fun q _ h => hFc q h) hFc (fun u t H1 locs1 ht hvm hw hB hz1 hk1 hS1 => ?_)
  skip
  obtain ⟨q1, q2, q3⟩ := hB
  rw [ht] at q1
  exact kk H1 locs1 q1 hk1 hS1
end LawX
abbrev oW (qo : Nat) (cJ : ClassId) (ov : Nat → Int64) : va_W := [(qo, .inl (cJ, 1, .inr (.inl ov)))]
/-- the law's world: the class, the reference, the row of one long -/
def LI (D : va_G) (g1 g2 : Gm) (qo : Nat) (cJ : ClassId) (A : Nat → Prop) (s : State) (st mt : CS) (ov : Nat → Int64) (H : Heap) (locs : List Loc) : Prop :=
  va_P D vwCl (cw g1 st) H ∧ va_P D vwCl (mw g2 mt) H ∧ va_P D vwCl (oW qo cJ ov) H ∧ va_D A (cw g1 c0 ++ (mw g2 m0 ++ oW qo cJ (fun _ => 0))) ∧ va_D A (mw g2 m0 ++ (cw g1 c0 ++ oW qo cJ (fun _ => 0))) ∧ va_D A ((cw g1 c0 ++ oW qo cJ (fun _ => 0)) ++ mw g2 m0) ∧ va_S A s.heap H locs
section LawI
variable {D : va_G} {g1 g2 : Gm} {qo : Nat} {cJ : ClassId} {A : Nat → Prop} {s : State} {st st' mt mt' : CS} {ov ov' : Nat → Int64} {H H1 : Heap} {locs locs1 : List Loc}
theorem LI.d1 (h : LI D g1 g2 qo cJ A s st mt ov H locs) (a b : CS) (o : Nat → Int64) : va_D A (cw g1 a ++ (mw g2 b ++ oW qo cJ o)) := dcong (by rfl) h.2.2.2.1
theorem LI.d2 (h : LI D g1 g2 qo cJ A s st mt ov H locs) (a b : CS) (o : Nat → Int64) : va_D A (mw g2 b ++ (cw g1 a ++ oW qo cJ o)) := dcong (by rfl) h.2.2.2.2.1
theorem LI.d3 (h : LI D g1 g2 qo cJ A s st mt ov H locs) {a b : CS} {o : Nat → Int64} : va_D A ((cw g1 a ++ oW qo cJ o) ++ mw g2 b) := dcong (by rfl) h.2.2.2.2.2.1
theorem appP {D : va_G} {cl : List vw_C} {a b : va_W} {H : Heap} (h : va_P D cl (a ++ b) H) : va_P D cl a H ∧ va_P D cl b H := by
  refine ⟨fun k q hk => h k q ?_, fun k q hk => h (a.length + k) q ?_⟩
  · rw [List.getElem?_append_left (List.getElem?_eq_some_iff.mp hk).1]; exact hk
  · rw [List.getElem?_append_right (Nat.le_add_right _ _), Nat.add_sub_cancel_left]; exact hk
theorem LI.cls (h : LI D g1 g2 qo cJ A s st mt ov H locs) (hP : va_P D vwCl (cw g1 st') H1) (hk : ∀ q : Nat, q < H.size → ¬ va_A (cw g1 st) H.size q → H1[q]? = H[q]?) (hS : va_S A s.heap H1 locs1) : LI D g1 g2 qo cJ A s st' mt ov H1 locs1 := by
  obtain ⟨h1, h2⟩ := appP (keepO (h.d1 st mt ov) (h.2.1.app h.2.2.1) hk)
  exact ⟨hP, h1, h2, h.2.2.2.1, h.2.2.2.2.1, h.2.2.2.2.2.1, hS⟩
theorem LI.mdl (h : LI D g1 g2 qo cJ A s st mt ov H locs) (hP : va_P D vwCl (mw g2 mt') H1) (hk : ∀ q : Nat, q < H.size → ¬ va_A (mw g2 mt) H.size q → H1[q]? = H[q]?) (hS : va_S A s.heap H1 locs1) : LI D g1 g2 qo cJ A s st mt' ov H1 locs1 := by
  obtain ⟨h1, h2⟩ := appP (keepO (h.d2 st mt ov) (h.1.app h.2.2.1) hk)
  exact ⟨h1, hP, h2, h.2.2.2.1, h.2.2.2.2.1, h.2.2.2.2.2.1, hS⟩
theorem LI.dc (h : LI D g1 g2 qo cJ A s st mt ov H locs) : va_D A (cw g1 st) := dleft (h.d1 st mt ov)
theorem LI.dm (h : LI D g1 g2 qo cJ A s st mt ov H locs) : va_D A (mw g2 mt) := dleft (h.d2 st mt ov)
end LawI
