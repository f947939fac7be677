abbrev wq_X11_thrown : List Cond := .code yX11_thrown cX11_thrown 1 (some .int) :: wAll
theorem yd_yX11_thrown : yX11_thrown.cls = RX11 ∧ yX11_thrown.cls ≠ "java/lang/invoke/MethodHandle" ∧ yX11_thrown.cls ≠ "java/lang/invoke/VarHandle" ∧ (parseMethodDescriptor yX11_thrown.desc).map (fun d => d.parameters.length) = some 0 := by decide +kernel
abbrev rm_m_thrown : Room := { frames := 0, cells := 0, slots := 0, locals := 0 }
def m_thrown (st : CS) : Int32 := (gI st 0)
set_option maxHeartbeats 4000000 in
set_option maxRecDepth 100000 in
theorem k_m_thrown {p : Program} {l : Launch} {e : Env} {s : State} {m : MethodId} {args : Array Value} {below : List Frame} {meth : Method} {c : Code} {A : Nat → Prop} (g : Gm) (C : cX p s m args meth c A cX11_thrown (some .int) 1 RX11 wq_X11_thrown (gD g) vwCl (mty g) (mz g)) (st : CS) (H : Heap) (locs : List Loc) (ls : Array Slot) (hI : cI (gD g) vwCl (mw g) A s st H locs) (hl : lv_has ls 1 [(0, .ref (gad g 0))]) (X : Int32) (hF : X = m_thrown st) : W p l e rm_m_thrown s m args below meth c H locs 0 0 (MQ below (cQi (gD g) vwCl (mty g) (mw g) A st X) args s 0 0 A) (F0 m 0 ls []) := by
  obtain ⟨hx, hb, hr, hml, hown, hts, hlocks, hK, hA, hZ, hzo⟩ := id C
  unfold m_thrown at hF
  refine lv_aload_n hx hb dX11_thrown_0 rfl (lv_at hl 0 rfl) ?_
  refine va_get (D := gD g) (ci := 11) (C := RX11) (T := TX11) (N := 50) (v := .int (gI st 0)) hx hb hts (fun w h => List.mem_cons_of_mem _ (isX110 w h)) hown hK hI.1 0 rfl rfl 0 (by decide) (hts _ (List.mem_cons_of_mem _ mw208)) (fun _ h9 => h9) rfl dX11_thrown_1 ?_
  exact cx_iret C hI rfl hF dX11_thrown_4
set_option maxHeartbeats 4000000 in
set_option maxRecDepth 100000 in
theorem c_m_thrown (l : Launch) (g : Gm) (st : CS) : Mi l yX11_thrown wq_X11_thrown rm_m_thrown (gD g) vwCl (mty g) (mw g) (mz g) [.ref (gad g 0)] st st (m_thrown st) := by
  intro sz
  refine Met.ofW (cc := cX11_thrown) (maxL := 1) (ret := (some .int)) (by decide) rfl ?_
  intro p e s m args below meth c s₁ B hml hv
  obtain ⟨rfl, hsz, hP, hK, hD0, hZ⟩ := hv
  subst hsz
  have hl := lv_entry ([.ref (gad g 0)]) (n := 1) (Nat.le_of_ble_eq_true rfl)
  rw [lg_entry_eq]
  generalize (lg_sl ([.ref (gad g 0)]) ++ List.replicate (1 - (lg_sl ([.ref (gad g 0)])).length) Slot.unset).toArray = ls at hl ⊢
  exact k_m_thrown g ⟨B.exec, B.bytes, B.returns, hml, findClass_of_methodNamed B.named, atoms_spec (ws := wq_X11_thrown) B.pre, B.notSynchronized, hK, fun q h => Or.inr h, hZ, mz_ok g⟩ st  _ _ ls ⟨hP, hD0.self, va_S.rf⟩ hl _ rfl
abbrev wq_X11_fail : List Cond := .code yX11_fail cX11_fail 1 (some .int) :: wAll
theorem yd_yX11_fail : yX11_fail.cls = RX11 ∧ yX11_fail.cls ≠ "java/lang/invoke/MethodHandle" ∧ yX11_fail.cls ≠ "java/lang/invoke/VarHandle" ∧ (parseMethodDescriptor yX11_fail.desc).map (fun d => d.parameters.length) = some 0 := by decide +kernel
abbrev rm_m_fail : Room := { frames := 0, cells := 0, slots := 0, locals := 0 }
def m_fail (st : CS) : CS × Int32 := ((sI st 0 (1 : Int32)), (0 : Int32))
set_option maxHeartbeats 4000000 in
set_option maxRecDepth 100000 in
theorem k_m_fail {p : Program} {l : Launch} {e : Env} {s : State} {m : MethodId} {args : Array Value} {below : List Frame} {meth : Method} {c : Code} {A : Nat → Prop} (g : Gm) (C : cX p s m args meth c A cX11_fail (some .int) 1 RX11 wq_X11_fail (gD g) vwCl (mty g) (mz g)) (st : CS) (H : Heap) (locs : List Loc) (ls : Array Slot) (hI : cI (gD g) vwCl (mw g) A s st H locs) (hl : lv_has ls 1 [(0, .ref (gad g 0))]) (X : CS × Int32) (hF : X = m_fail st) : W p l e rm_m_fail s m args below meth c H locs 0 0 (MQ below (cQi (gD g) vwCl (mty g) (mw g) A X.1 X.2) args s 0 0 A) (F0 m 0 ls []) := by
  obtain ⟨hx, hb, hr, hml, hown, hts, hlocks, hK, hA, hZ, hzo⟩ := id C
  unfold m_fail at hF
  refine lv_aload_n hx hb dX11_fail_0 rfl (lv_at hl 0 rfl) ?_
  refine lv_iconst (v := (1 : Int32)) hx hb dX11_fail_1 (by decide) ?_
  refine va_put (D := gD g) (ci := 11) (C := RX11) (T := TX11) (N := 50) (v := .int (1 : Int32)) (ty := .int) hx hb hts (fun w h => List.mem_cons_of_mem _ (isX110 w h)) tyX11 tyX11_ok nmX11 hown hK hI.1 hI.2.1 hI.2.2 0 rfl rfl 0 (by decide) (hts _ (List.mem_cons_of_mem _ mw208)) (fun _ h9 => h9) rfl (by decide +kernel) rfl rfl (Nat.le_of_ble_eq_true rfl) dX11_fail_2 (fun H locs hP hD hS => ?_)
  have hI : cI (gD g) vwCl (mw g) A s (sI st 0 (1 : Int32)) H locs := ⟨hP, hD, hS⟩
  refine lv_iconst (v := (0 : Int32)) hx hb dX11_fail_5 (by decide) ?_
  exact cx_iret C hI (congrArg Prod.fst hF) (congrArg Prod.snd hF) dX11_fail_6
set_option maxHeartbeats 4000000 in
set_option maxRecDepth 100000 in
theorem c_m_fail (l : Launch) (g : Gm) (st : CS) : Mi l yX11_fail wq_X11_fail rm_m_fail (gD g) vwCl (mty g) (mw g) (mz g) [.ref (gad g 0)] st (m_fail st).1 (m_fail st).2 := by
  intro sz
  refine Met.ofW (cc := cX11_fail) (maxL := 1) (ret := (some .int)) (by decide) rfl ?_
  intro p e s m args below meth c s₁ B hml hv
  obtain ⟨rfl, hsz, hP, hK, hD0, hZ⟩ := hv
  subst hsz
  have hl := lv_entry ([.ref (gad g 0)]) (n := 1) (Nat.le_of_ble_eq_true rfl)
  rw [lg_entry_eq]
  generalize (lg_sl ([.ref (gad g 0)]) ++ List.replicate (1 - (lg_sl ([.ref (gad g 0)])).length) Slot.unset).toArray = ls at hl ⊢
  exact k_m_fail g ⟨B.exec, B.bytes, B.returns, hml, findClass_of_methodNamed B.named, atoms_spec (ws := wq_X11_fail) B.pre, B.notSynchronized, hK, fun q h => Or.inr h, hZ, mz_ok g⟩ st  _ _ ls ⟨hP, hD0.self, va_S.rf⟩ hl _ rfl
abbrev wq_X11_within : List Cond := .code yX11_within cX11_within 3 (some .boolean) :: wAll
theorem yd_yX11_within : yX11_within.cls ≠ "java/lang/invoke/MethodHandle" ∧ yX11_within.cls ≠ "java/lang/invoke/VarHandle" ∧ (parseMethodDescriptor yX11_within.desc).map (fun d => d.parameters.length) = some 3 := by decide +kernel
abbrev rm_m_within : Room := { frames := 0, cells := 0, slots := 0, locals := 0 }
def m_within (x0 : Int32) (x1 : Int32) (x2 : Int32) : Int32 := (if (x0 < x1) then (0 : Int32) else (if (x2 < x0) then (0 : Int32) else (1 : Int32)))
set_option maxHeartbeats 4000000 in
set_option maxRecDepth 100000 in
theorem k_m_within {p : Program} {l : Launch} {e : Env} {s : State} {m : MethodId} {args : Array Value} {below : List Frame} {meth : Method} {c : Code} {A : Nat → Prop} (g : Gm) (C : cX p s m args meth c A cX11_within (some .boolean) 3 RX11 wq_X11_within (gD g) vwCl (mty g) (mz g)) (st : CS) (x0 : Int32) (x1 : Int32) (x2 : Int32) (H : Heap) (locs : List Loc) (ls : Array Slot) (hI : cI (gD g) vwCl (mw g) A s st H locs) (hl : lv_has ls 3 [(0, .int x0), (1, .int x1), (2, .int x2)]) (X : Int32) (hF : X = m_within x0 x1 x2) : W p l e rm_m_within s m args below meth c H locs 0 0 (MQ below (cQi (gD g) vwCl (mty g) (mw g) A st X) args s 0 0 A) (F0 m 0 ls []) := by
  obtain ⟨hx, hb, hr, hml, hown, hts, hlocks, hK, hA, hZ, hzo⟩ := id C
  unfold m_within at hF
  refine lv_iload_n hx hb dX11_within_0 rfl (lv_at hl 0 rfl) ?_
  refine lv_iload_n hx hb dX11_within_1 rfl (lv_at hl 1 rfl) ?_
  refine lv_icmp_lt (tgt := 14) hx hb dX11_within_2 (by decide) (fun c_2 => ?_) (fun c_2 => ?_)
  · have hF := hF.trans (if_pos c_2)
    refine lv_iconst (v := (0 : Int32)) hx hb dX11_within_14 (by decide) ?_
    exact cx_zret C hI rfl hF rfl dX11_within_15
  · have hF := hF.trans (if_neg c_2)
    refine lv_iload_n hx hb dX11_within_5 rfl (lv_at hl 0 rfl) ?_
    refine lv_iload_n hx hb dX11_within_6 rfl (lv_at hl 2 rfl) ?_
    refine lv_icmp_gt (tgt := 14) hx hb dX11_within_7 (by decide) (fun c_7 => ?_) (fun c_7 => ?_)
    · have hF := hF.trans (if_pos c_7)
      refine lv_iconst (v := (0 : Int32)) hx hb dX11_within_14 (by decide) ?_
      exact cx_zret C hI rfl hF rfl dX11_within_15
    · have hF := hF.trans (if_neg c_7)
      refine lv_iconst (v := (1 : Int32)) hx hb dX11_within_10 (by decide) ?_
      refine lv_goto (tgt := 15) hx hb dX11_within_11 (by decide) ?_
      exact cx_zret C hI rfl hF rfl dX11_within_15
set_option maxHeartbeats 4000000 in
set_option maxRecDepth 100000 in
theorem c_m_within (l : Launch) (g : Gm) (st : CS) (x0 : Int32) (x1 : Int32) (x2 : Int32) : Mi l yX11_within wq_X11_within rm_m_within (gD g) vwCl (mty g) (mw g) (mz g) [.int x0, .int x1, .int x2] st st (m_within x0 x1 x2) := by
  intro sz
  refine Met.ofW (cc := cX11_within) (maxL := 3) (ret := (some .boolean)) (by decide) rfl ?_
  intro p e s m args below meth c s₁ B hml hv
  obtain ⟨rfl, hsz, hP, hK, hD0, hZ⟩ := hv
  subst hsz
  have hl := lv_entry ([.int x0, .int x1, .int x2]) (n := 3) (Nat.le_of_ble_eq_true rfl)
  rw [lg_entry_eq]
  generalize (lg_sl ([.int x0, .int x1, .int x2]) ++ List.replicate (3 - (lg_sl ([.int x0, .int x1, .int x2])).length) Slot.unset).toArray = ls at hl ⊢
  exact k_m_within g ⟨B.exec, B.bytes, B.returns, hml, findClass_of_methodNamed B.named, atoms_spec (ws := wq_X11_within) B.pre, B.notSynchronized, hK, fun q h => Or.inr h, hZ, mz_ok g⟩ st x0 x1 x2 _ _ ls ⟨hP, hD0.self, va_S.rf⟩ hl _ rfl
abbrev wq_X11_reset : List Cond := .code yX11_reset cX11_reset 2 none :: wAll
theorem yd_yX11_reset : yX11_reset.cls = RX11 ∧ yX11_reset.cls ≠ "java/lang/invoke/MethodHandle" ∧ yX11_reset.cls ≠ "java/lang/invoke/VarHandle" ∧ (parseMethodDescriptor yX11_reset.desc).map (fun d => d.parameters.length) = some 0 := by decide +kernel
abbrev rm_m_reset : Room := { frames := 0, cells := 0, slots := 0, locals := 0 }
def m_reset_b185 (rec : CS → Int32 → Option (CS)) (st : CS) (x1 : Int32) : Option (CS) := (rec st (x1 + (1 : Int32)))
def o_m_reset_b185 (orec : CS → Int32 → Prop) (st : CS) (x1 : Int32) : Prop := (orec st (x1 + (1 : Int32)))
set_option maxHeartbeats 4000000 in
set_option maxRecDepth 100000 in
theorem k_m_reset_b185 {p : Program} {l : Launch} {e : Env} {s : State} {m : MethodId} {args : Array Value} {below : List Frame} {meth : Method} {c : Code} {A : Nat → Prop} (g : Gm) (C : cX p s m args meth c A cX11_reset none 2 RX11 wq_X11_reset (gD g) vwCl (mty g) (mz g)) (rec : CS → Int32 → Option (CS)) (orec : CS → Int32 → Prop) (hrec : ∀ (st : CS) (x1 : Int32) (H : Heap) (locs : List Loc) (ls : Array Slot), cI (gD g) vwCl (mw g) A s st H locs → lv_has ls 2 [(0, .ref (gad g 0)), (1, .int x1)] → orec st x1 → ∀ (X : CS), some X = rec st x1 → W p l e rm_m_reset s m args below meth c H locs 0 0 (MQ below (cQv (gD g) vwCl (mty g) (mw g) A X) args s 0 0 A) (F0 m 173 ls [])) (st : CS) (x1 : Int32) (H : Heap) (locs : List Loc) (ls : Array Slot) (hI : cI (gD g) vwCl (mw g) A s st H locs) (hl : lv_has ls 2 [(0, .ref (gad g 0)), (1, .int x1)]) (hO : o_m_reset_b185 orec st x1) (X : CS) (hF : some X = m_reset_b185 rec st x1) : W p l e rm_m_reset s m args below meth c H locs 0 0 (MQ below (cQv (gD g) vwCl (mty g) (mw g) A X) args s 0 0 A) (F0 m 185 ls []) := by
  obtain ⟨hx, hb, hr, hml, hown, hts, hlocks, hK, hA, hZ, hzo⟩ := id C
  unfold m_reset_b185 at hF
  unfold o_m_reset_b185 at hO
  refine lv_iinc (v := (x1 + (1 : Int32))) (lv' := [(1, .int (x1 + (1 : Int32))), (0, .ref (gad g 0))]) hx hb dX11_reset_185 hl (k := 1) rfl rfl (by decide) rfl (fun ls hl => ?_)
  refine lv_goto (tgt := 173) hx hb dX11_reset_188 (by decide) ?_
  exact hrec st (x1 + (1 : Int32)) H locs ls hI (lv_sub hl [1, 0] rfl) hO X hF
def m_reset_b173 : Nat → CS → Int32 → Option (CS)
  | 0, _, _ => none
  | n + 1, st, x1 => (if ((3 : Int32) ≤ x1) then (some (sL (sI (sI (sI (sI (sI (sI (sI (sI (sI (sI (sI (sI (sI st 9 (0 : Int32)) 10 (0 : Int32)) 11 (0 : Int32)) 12 (0 : Int32)) 13 (0 : Int32)) 14 (0 : Int32)) 15 (0 : Int32)) 16 (0 : Int32)) 17 (0 : Int32)) 18 (0 : Int32)) 19 (0 : Int32)) 22 (0 : Int32)) 23 (0 : Int32)) 0 (0 : Int64))) else (m_reset_b185 (m_reset_b173 n) (sA st 10 (upd (gA st 10) x1.toNatClampNeg (0 : Int32))) x1))
def o_m_reset_b173 : Nat → CS → Int32 → Prop
  | 0, _, _ => True
  | n + 1, st, x1 => ((((3 : Int32) ≤ x1) → True) ∧ (¬ ((3 : Int32) ≤ x1) → (vp_in x1 3 ∧ (o_m_reset_b185 (o_m_reset_b173 n) (sA st 10 (upd (gA st 10) x1.toNatClampNeg (0 : Int32))) x1))))
set_option maxHeartbeats 4000000 in
set_option maxRecDepth 100000 in
theorem k_m_reset_b173 {p : Program} {l : Launch} {e : Env} {s : State} {m : MethodId} {args : Array Value} {below : List Frame} {meth : Method} {c : Code} {A : Nat → Prop} (g : Gm) (C : cX p s m args meth c A cX11_reset none 2 RX11 wq_X11_reset (gD g) vwCl (mty g) (mz g)) : ∀ (n : Nat) (st : CS) (x1 : Int32) (H : Heap) (locs : List Loc) (ls : Array Slot), cI (gD g) vwCl (mw g) A s st H locs → lv_has ls 2 [(0, .ref (gad g 0)), (1, .int x1)] → o_m_reset_b173 n st x1 → ∀ (X : CS), some X = m_reset_b173 n st x1 → W p l e rm_m_reset s m args below meth c H locs 0 0 (MQ below (cQv (gD g) vwCl (mty g) (mw g) A X) args s 0 0 A) (F0 m 173 ls []) := by
  obtain ⟨hx, hb, hr, hml, hown, hts, hlocks, hK, hA, hZ, hzo⟩ := id C
  intro n
  induction n with
  | zero => intro st x1 H locs ls hI hl hO X hF; exact absurd hF (by simp [m_reset_b173])
  | succ n ih =>
    intro st x1 H locs ls hI hl hO X hF
    rw [m_reset_b173] at hF
    rw [o_m_reset_b173] at hO
    refine lv_iload_n hx hb dX11_reset_173 rfl (lv_at hl 1 rfl) ?_
    refine lv_iconst (v := (3 : Int32)) hx hb dX11_reset_174 (by decide) ?_
    refine lv_icmp_ge (tgt := 191) hx hb dX11_reset_175 (by decide) (fun c_175 => ?_) (fun c_175 => ?_)
    · have hF := hF.trans (if_pos c_175)
      have hO := hO.1 c_175
      refine lv_aload_n hx hb dX11_reset_191 rfl (lv_at hl 0 rfl) ?_
      refine lv_lconst (v := (0 : Int64)) hx hb dX11_reset_192 (by decide) ?_
      refine va_put (D := gD g) (ci := 11) (C := RX11) (T := TX11) (N := 50) (v := .long (0 : Int64)) (ty := .long) hx hb hts (fun w h => List.mem_cons_of_mem _ (isX110 w h)) tyX11 tyX11_ok nmX11 hown hK hI.1 hI.2.1 hI.2.2 0 rfl rfl 21 (by decide) (hts _ (List.mem_cons_of_mem _ mw215)) (fun _ h9 => h9) rfl (by decide +kernel) rfl rfl (Nat.le_of_ble_eq_true rfl) dX11_reset_193 (fun H locs hP hD hS => ?_)
      have hI : cI (gD g) vwCl (mw g) A s (sL st 0 (0 : Int64)) H locs := ⟨hP, hD, hS⟩
      refine lv_aload_n hx hb dX11_reset_196 rfl (lv_at hl 0 rfl) ?_
      refine lv_iconst (v := (0 : Int32)) hx hb dX11_reset_197 (by decide) ?_
      refine va_put (D := gD g) (ci := 11) (C := RX11) (T := TX11) (N := 50) (v := .int (0 : Int32)) (ty := .int) hx hb hts (fun w h => List.mem_cons_of_mem _ (isX110 w h)) tyX11 tyX11_ok nmX11 hown hK hI.1 hI.2.1 hI.2.2 0 rfl rfl 22 (by decide) (hts _ (List.mem_cons_of_mem _ mw216)) (fun _ h9 => h9) rfl (by decide +kernel) rfl rfl (Nat.le_of_ble_eq_true rfl) dX11_reset_198 (fun H locs hP hD hS => ?_)
      have hI : cI (gD g) vwCl (mw g) A s (sL (sI st 9 (0 : Int32)) 0 (0 : Int64)) H locs := ⟨hP, hD, hS⟩
      refine lv_aload_n hx hb dX11_reset_201 rfl (lv_at hl 0 rfl) ?_
      refine lv_iconst (v := (0 : Int32)) hx hb dX11_reset_202 (by decide) ?_
      refine va_put (D := gD g) (ci := 11) (C := RX11) (T := TX11) (N := 50) (v := .int (0 : Int32)) (ty := .int) hx hb hts (fun w h => List.mem_cons_of_mem _ (isX110 w h)) tyX11 tyX11_ok nmX11 hown hK hI.1 hI.2.1 hI.2.2 0 rfl rfl 27 (by decide) (hts _ (List.mem_cons_of_mem _ mw217)) (fun _ h9 => h9) rfl (by decide +kernel) rfl rfl (Nat.le_of_ble_eq_true rfl) dX11_reset_203 (fun H locs hP hD hS => ?_)
      have hI : cI (gD g) vwCl (mw g) A s (sL (sI (sI st 9 (0 : Int32)) 10 (0 : Int32)) 0 (0 : Int64)) H locs := ⟨hP, hD, hS⟩
      refine lv_aload_n hx hb dX11_reset_206 rfl (lv_at hl 0 rfl) ?_
      refine lv_iconst (v := (0 : Int32)) hx hb dX11_reset_207 (by decide) ?_
      refine va_put (D := gD g) (ci := 11) (C := RX11) (T := TX11) (N := 50) (v := .int (0 : Int32)) (ty := .int) hx hb hts (fun w h => List.mem_cons_of_mem _ (isX110 w h)) tyX11 tyX11_ok nmX11 hown hK hI.1 hI.2.1 hI.2.2 0 rfl rfl 28 (by decide) (hts _ (List.mem_cons_of_mem _ mw218)) (fun _ h9 => h9) rfl (by decide +kernel) rfl rfl (Nat.le_of_ble_eq_true rfl) dX11_reset_208 (fun H locs hP hD hS => ?_)
      have hI : cI (gD g) vwCl (mw g) A s (sL (sI (sI (sI st 9 (0 : Int32)) 10 (0 : Int32)) 11 (0 : Int32)) 0 (0 : Int64)) H locs := ⟨hP, hD, hS⟩
      refine lv_aload_n hx hb dX11_reset_211 rfl (lv_at hl 0 rfl) ?_
      refine lv_iconst (v := (0 : Int32)) hx hb dX11_reset_212 (by decide) ?_
      refine va_put (D := gD g) (ci := 11) (C := RX11) (T := TX11) (N := 50) (v := .int (0 : Int32)) (ty := .int) hx hb hts (fun w h => List.mem_cons_of_mem _ (isX110 w h)) tyX11 tyX11_ok nmX11 hown hK hI.1 hI.2.1 hI.2.2 0 rfl rfl 29 (by decide) (hts _ (List.mem_cons_of_mem _ mw219)) (fun _ h9 => h9) rfl (by decide +kernel) rfl rfl (Nat.le_of_ble_eq_true rfl) dX11_reset_213 (fun H locs hP hD hS => ?_)
      have hI : cI (gD g) vwCl (mw g) A s (sL (sI (sI (sI (sI st 9 (0 : Int32)) 10 (0 : Int32)) 11 (0 : Int32)) 12 (0 : Int32)) 0 (0 : Int64)) H locs := ⟨hP, hD, hS⟩
      refine lv_aload_n hx hb dX11_reset_216 rfl (lv_at hl 0 rfl) ?_
      refine lv_iconst (v := (0 : Int32)) hx hb dX11_reset_217 (by decide) ?_
      refine va_put (D := gD g) (ci := 11) (C := RX11) (T := TX11) (N := 50) (v := .int (0 : Int32)) (ty := .int) hx hb hts (fun w h => List.mem_cons_of_mem _ (isX110 w h)) tyX11 tyX11_ok nmX11 hown hK hI.1 hI.2.1 hI.2.2 0 rfl rfl 30 (by decide) (hts _ (List.mem_cons_of_mem _ mw220)) (fun _ h9 => h9) rfl (by decide +kernel) rfl rfl (Nat.le_of_ble_eq_true rfl) dX11_reset_218 (fun H locs hP hD hS => ?_)
      have hI : cI (gD g) vwCl (mw g) A s (sL (sI (sI (sI (sI (sI st 9 (0 : Int32)) 10 (0 : Int32)) 11 (0 : Int32)) 12 (0 : Int32)) 13 (0 : Int32)) 0 (0 : Int64)) H locs := ⟨hP, hD, hS⟩
      refine lv_aload_n hx hb dX11_reset_221 rfl (lv_at hl 0 rfl) ?_
      refine lv_iconst (v := (0 : Int32)) hx hb dX11_reset_222 (by decide) ?_
      refine va_put (D := gD g) (ci := 11) (C := RX11) (T := TX11) (N := 50) (v := .int (0 : Int32)) (ty := .boolean) hx hb hts (fun w h => List.mem_cons_of_mem _ (isX110 w h)) tyX11 tyX11_ok nmX11 hown hK hI.1 hI.2.1 hI.2.2 0 rfl rfl 31 (by decide) (hts _ (List.mem_cons_of_mem _ mw221)) (fun _ h9 => h9) rfl (by decide +kernel) rfl rfl (Nat.le_of_ble_eq_true rfl) dX11_reset_223 (fun H locs hP hD hS => ?_)
      have hI : cI (gD g) vwCl (mw g) A s (sL (sI (sI (sI (sI (sI (sI st 9 (0 : Int32)) 10 (0 : Int32)) 11 (0 : Int32)) 12 (0 : Int32)) 13 (0 : Int32)) 14 (0 : Int32)) 0 (0 : Int64)) H locs := ⟨hP, hD, hS⟩
      refine lv_aload_n hx hb dX11_reset_226 rfl (lv_at hl 0 rfl) ?_
      refine lv_iconst (v := (0 : Int32)) hx hb dX11_reset_227 (by decide) ?_
      refine va_put (D := gD g) (ci := 11) (C := RX11) (T := TX11) (N := 50) (v := .int (0 : Int32)) (ty := .int) hx hb hts (fun w h => List.mem_cons_of_mem _ (isX110 w h)) tyX11 tyX11_ok nmX11 hown hK hI.1 hI.2.1 hI.2.2 0 rfl rfl 32 (by decide) (hts _ (List.mem_cons_of_mem _ mw222)) (fun _ h9 => h9) rfl (by decide +kernel) rfl rfl (Nat.le_of_ble_eq_true rfl) dX11_reset_228 (fun H locs hP hD hS => ?_)
      have hI : cI (gD g) vwCl (mw g) A s (sL (sI (sI (sI (sI (sI (sI (sI st 9 (0 : Int32)) 10 (0 : Int32)) 11 (0 : Int32)) 12 (0 : Int32)) 13 (0 : Int32)) 14 (0 : Int32)) 15 (0 : Int32)) 0 (0 : Int64)) H locs := ⟨hP, hD, hS⟩
      refine lv_aload_n hx hb dX11_reset_231 rfl (lv_at hl 0 rfl) ?_
      refine lv_iconst (v := (0 : Int32)) hx hb dX11_reset_232 (by decide) ?_
      refine va_put (D := gD g) (ci := 11) (C := RX11) (T := TX11) (N := 50) (v := .int (0 : Int32)) (ty := .int) hx hb hts (fun w h => List.mem_cons_of_mem _ (isX110 w h)) tyX11 tyX11_ok nmX11 hown hK hI.1 hI.2.1 hI.2.2 0 rfl rfl 33 (by decide) (hts _ (List.mem_cons_of_mem _ mw223)) (fun _ h9 => h9) rfl (by decide +kernel) rfl rfl (Nat.le_of_ble_eq_true rfl) dX11_reset_233 (fun H locs hP hD hS => ?_)
      have hI : cI (gD g) vwCl (mw g) A s (sL (sI (sI (sI (sI (sI (sI (sI (sI st 9 (0 : Int32)) 10 (0 : Int32)) 11 (0 : Int32)) 12 (0 : Int32)) 13 (0 : Int32)) 14 (0 : Int32)) 15 (0 : Int32)) 16 (0 : Int32)) 0 (0 : Int64)) H locs := ⟨hP, hD, hS⟩
      refine lv_aload_n hx hb dX11_reset_236 rfl (lv_at hl 0 rfl) ?_
      refine lv_iconst (v := (0 : Int32)) hx hb dX11_reset_237 (by decide) ?_
      refine va_put (D := gD g) (ci := 11) (C := RX11) (T := TX11) (N := 50) (v := .int (0 : Int32)) (ty := .int) hx hb hts (fun w h => List.mem_cons_of_mem _ (isX110 w h)) tyX11 tyX11_ok nmX11 hown hK hI.1 hI.2.1 hI.2.2 0 rfl rfl 34 (by decide) (hts _ (List.mem_cons_of_mem _ mw224)) (fun _ h9 => h9) rfl (by decide +kernel) rfl rfl (Nat.le_of_ble_eq_true rfl) dX11_reset_238 (fun H locs hP hD hS => ?_)
      have hI : cI (gD g) vwCl (mw g) A s (sL (sI (sI (sI (sI (sI (sI (sI (sI (sI st 9 (0 : Int32)) 10 (0 : Int32)) 11 (0 : Int32)) 12 (0 : Int32)) 13 (0 : Int32)) 14 (0 : Int32)) 15 (0 : Int32)) 16 (0 : Int32)) 17 (0 : Int32)) 0 (0 : Int64)) H locs := ⟨hP, hD, hS⟩
      refine lv_aload_n hx hb dX11_reset_241 rfl (lv_at hl 0 rfl) ?_
      refine lv_iconst (v := (0 : Int32)) hx hb dX11_reset_242 (by decide) ?_
      refine va_put (D := gD g) (ci := 11) (C := RX11) (T := TX11) (N := 50) (v := .int (0 : Int32)) (ty := .int) hx hb hts (fun w h => List.mem_cons_of_mem _ (isX110 w h)) tyX11 tyX11_ok nmX11 hown hK hI.1 hI.2.1 hI.2.2 0 rfl rfl 35 (by decide) (hts _ (List.mem_cons_of_mem _ mw225)) (fun _ h9 => h9) rfl (by decide +kernel) rfl rfl (Nat.le_of_ble_eq_true rfl) dX11_reset_243 (fun H locs hP hD hS => ?_)
      have hI : cI (gD g) vwCl (mw g) A s (sL (sI (sI (sI (sI (sI (sI (sI (sI (sI (sI st 9 (0 : Int32)) 10 (0 : Int32)) 11 (0 : Int32)) 12 (0 : Int32)) 13 (0 : Int32)) 14 (0 : Int32)) 15 (0 : Int32)) 16 (0 : Int32)) 17 (0 : Int32)) 18 (0 : Int32)) 0 (0 : Int64)) H locs := ⟨hP, hD, hS⟩
      refine lv_aload_n hx hb dX11_reset_246 rfl (lv_at hl 0 rfl) ?_
      refine lv_iconst (v := (0 : Int32)) hx hb dX11_reset_247 (by decide) ?_
      refine va_put (D := gD g) (ci := 11) (C := RX11) (T := TX11) (N := 50) (v := .int (0 : Int32)) (ty := .int) hx hb hts (fun w h => List.mem_cons_of_mem _ (isX110 w h)) tyX11 tyX11_ok nmX11 hown hK hI.1 hI.2.1 hI.2.2 0 rfl rfl 36 (by decide) (hts _ (List.mem_cons_of_mem _ mw226)) (fun _ h9 => h9) rfl (by decide +kernel) rfl rfl (Nat.le_of_ble_eq_true rfl) dX11_reset_248 (fun H locs hP hD hS => ?_)
      have hI : cI (gD g) vwCl (mw g) A s (sL (sI (sI (sI (sI (sI (sI (sI (sI (sI (sI (sI st 9 (0 : Int32)) 10 (0 : Int32)) 11 (0 : Int32)) 12 (0 : Int32)) 13 (0 : Int32)) 14 (0 : Int32)) 15 (0 : Int32)) 16 (0 : Int32)) 17 (0 : Int32)) 18 (0 : Int32)) 19 (0 : Int32)) 0 (0 : Int64)) H locs := ⟨hP, hD, hS⟩
      refine lv_aload_n hx hb dX11_reset_251 rfl (lv_at hl 0 rfl) ?_
      refine lv_iconst (v := (0 : Int32)) hx hb dX11_reset_252 (by decide) ?_
      refine va_put (D := gD g) (ci := 11) (C := RX11) (T := TX11) (N := 50) (v := .int (0 : Int32)) (ty := .boolean) hx hb hts (fun w h => List.mem_cons_of_mem _ (isX110 w h)) tyX11 tyX11_ok nmX11 hown hK hI.1 hI.2.1 hI.2.2 0 rfl rfl 39 (by decide) (hts _ (List.mem_cons_of_mem _ mw227)) (fun _ h9 => h9) rfl (by decide +kernel) rfl rfl (Nat.le_of_ble_eq_true rfl) dX11_reset_253 (fun H locs hP hD hS => ?_)
      have hI : cI (gD g) vwCl (mw g) A s (sL (sI (sI (sI (sI (sI (sI (sI (sI (sI (sI (sI (sI st 9 (0 : Int32)) 10 (0 : Int32)) 11 (0 : Int32)) 12 (0 : Int32)) 13 (0 : Int32)) 14 (0 : Int32)) 15 (0 : Int32)) 16 (0 : Int32)) 17 (0 : Int32)) 18 (0 : Int32)) 19 (0 : Int32)) 22 (0 : Int32)) 0 (0 : Int64)) H locs := ⟨hP, hD, hS⟩
      refine lv_aload_n hx hb dX11_reset_256 rfl (lv_at hl 0 rfl) ?_
      refine lv_iconst (v := (0 : Int32)) hx hb dX11_reset_257 (by decide) ?_
      refine va_put (D := gD g) (ci := 11) (C := RX11) (T := TX11) (N := 50) (v := .int (0 : Int32)) (ty := .boolean) hx hb hts (fun w h => List.mem_cons_of_mem _ (isX110 w h)) tyX11 tyX11_ok nmX11 hown hK hI.1 hI.2.1 hI.2.2 0 rfl rfl 40 (by decide) (hts _ (List.mem_cons_of_mem _ mw228)) (fun _ h9 => h9) rfl (by decide +kernel) rfl rfl (Nat.le_of_ble_eq_true rfl) dX11_reset_258 (fun H locs hP hD hS => ?_)
      have hI : cI (gD g) vwCl (mw g) A s (sL (sI (sI (sI (sI (sI (sI (sI (sI (sI (sI (sI (sI (sI st 9 (0 : Int32)) 10 (0 : Int32)) 11 (0 : Int32)) 12 (0 : Int32)) 13 (0 : Int32)) 14 (0 : Int32)) 15 (0 : Int32)) 16 (0 : Int32)) 17 (0 : Int32)) 18 (0 : Int32)) 19 (0 : Int32)) 22 (0 : Int32)) 23 (0 : Int32)) 0 (0 : Int64)) H locs := ⟨hP, hD, hS⟩
      have hF := Option.some.inj hF
      exact cx_vret C hI hF dX11_reset_261
    · have hF := hF.trans (if_neg c_175)
      have hO := hO.2 c_175
      refine lv_aload_n hx hb dX11_reset_178 rfl (lv_at hl 0 rfl) ?_
      refine va_get (D := gD g) (ci := 11) (C := RX11) (T := TX11) (N := 50) (v := .ref (gad g 11)) hx hb hts (fun w h => List.mem_cons_of_mem _ (isX110 w h)) hown hK hI.1 0 rfl rfl 19 (by decide) (hts _ (List.mem_cons_of_mem _ mw195)) (fun _ h9 => h9) rfl dX11_reset_179 ?_
      refine lv_iload_n hx hb dX11_reset_182 rfl (lv_at hl 1 rfl) ?_
      refine lv_iconst (v := (0 : Int32)) hx hb dX11_reset_183 (by decide) ?_
      have hq_184_0 := hO.1
      have hO := hO.2
      refine va_iast (f := (gA st 10)) hx hb hK hI.1 hI.2.1 hI.2.2 11 10 rfl rfl hq_184_0 dX11_reset_184 (fun H locs hP hD hS => ?_)
      have hI : cI (gD g) vwCl (mw g) A s (sA st 10 (upd (gA st 10) x1.toNatClampNeg (0 : Int32))) H locs := ⟨hP, hD, hS⟩
      exact k_m_reset_b185 g C (m_reset_b173 n) (o_m_reset_b173 n) ih (sA st 10 (upd (gA st 10) x1.toNatClampNeg (0 : Int32))) x1 H locs ls hI (lv_sub hl [0, 1] rfl) hO X hF
def m_reset_b173t (st : CS) (x1 : Int32) : CS := (m_reset_b173 (4) st x1).getD st
def o_m_reset_b173t (st : CS) (x1 : Int32) : Prop := o_m_reset_b173 (4) st x1 ∧ ∃ r, m_reset_b173 (4) st x1 = some r
set_option maxHeartbeats 4000000 in
set_option maxRecDepth 100000 in
theorem k_m_reset_b173t {p : Program} {l : Launch} {e : Env} {s : State} {m : MethodId} {args : Array Value} {below : List Frame} {meth : Method} {c : Code} {A : Nat → Prop} (g : Gm) (C : cX p s m args meth c A cX11_reset none 2 RX11 wq_X11_reset (gD g) vwCl (mty g) (mz g)) (st : CS) (x1 : Int32) (H : Heap) (locs : List Loc) (ls : Array Slot) (hI : cI (gD g) vwCl (mw g) A s st H locs) (hl : lv_has ls 2 [(0, .ref (gad g 0)), (1, .int x1)]) (hO : o_m_reset_b173t st x1) (X : CS) (hF : X = m_reset_b173t st x1) : W p l e rm_m_reset s m args below meth c H locs 0 0 (MQ below (cQv (gD g) vwCl (mty g) (mw g) A X) args s 0 0 A) (F0 m 173 ls []) := by
  refine k_m_reset_b173 g C (4) st x1 H locs ls hI hl hO.1 X ?_
  rw [hF]
  exact some_getD hO.2
def m_reset_b145 (rec : CS → Int32 → Option (CS)) (st : CS) (x1 : Int32) : Option (CS) := (rec st (x1 + (1 : Int32)))
def o_m_reset_b145 (orec : CS → Int32 → Prop) (st : CS) (x1 : Int32) : Prop := (orec st (x1 + (1 : Int32)))
set_option maxHeartbeats 4000000 in
set_option maxRecDepth 100000 in
theorem k_m_reset_b145 {p : Program} {l : Launch} {e : Env} {s : State} {m : MethodId} {args : Array Value} {below : List Frame} {meth : Method} {c : Code} {A : Nat → Prop} (g : Gm) (C : cX p s m args meth c A cX11_reset none 2 RX11 wq_X11_reset (gD g) vwCl (mty g) (mz g)) (rec : CS → Int32 → Option (CS)) (orec : CS → Int32 → Prop) (hrec : ∀ (st : CS) (x1 : Int32) (H : Heap) (locs : List Loc) (ls : Array Slot), cI (gD g) vwCl (mw g) A s st H locs → lv_has ls 2 [(0, .ref (gad g 0)), (1, .int x1)] → orec st x1 → ∀ (X : CS), some X = rec st x1 → W p l e rm_m_reset s m args below meth c H locs 0 0 (MQ below (cQv (gD g) vwCl (mty g) (mw g) A X) args s 0 0 A) (F0 m 110 ls [])) (st : CS) (x1 : Int32) (H : Heap) (locs : List Loc) (ls : Array Slot) (hI : cI (gD g) vwCl (mw g) A s st H locs) (hl : lv_has ls 2 [(0, .ref (gad g 0)), (1, .int x1)]) (hO : o_m_reset_b145 orec st x1) (X : CS) (hF : some X = m_reset_b145 rec st x1) : W p l e rm_m_reset s m args below meth c H locs 0 0 (MQ below (cQv (gD g) vwCl (mty g) (mw g) A X) args s 0 0 A) (F0 m 145 ls []) := by
  obtain ⟨hx, hb, hr, hml, hown, hts, hlocks, hK, hA, hZ, hzo⟩ := id C
  unfold m_reset_b145 at hF
  unfold o_m_reset_b145 at hO
  refine lv_iinc (v := (x1 + (1 : Int32))) (lv' := [(1, .int (x1 + (1 : Int32))), (0, .ref (gad g 0))]) hx hb dX11_reset_145 hl (k := 1) rfl rfl (by decide) rfl (fun ls hl => ?_)
  refine lv_goto (tgt := 110) hx hb dX11_reset_148 (by decide) ?_
  exact hrec st (x1 + (1 : Int32)) H locs ls hI (lv_sub hl [1, 0] rfl) hO X hF
def m_reset_b138 (rec : CS → Int32 → Option (CS)) (st : CS) (x1 : Int32) : Option (CS) := (m_reset_b145 rec (sA st 9 (upd (gA st 9) x1.toNatClampNeg (0 : Int32))) x1)
def o_m_reset_b138 (orec : CS → Int32 → Prop) (st : CS) (x1 : Int32) : Prop := (vp_in x1 16 ∧ (o_m_reset_b145 orec (sA st 9 (upd (gA st 9) x1.toNatClampNeg (0 : Int32))) x1))
set_option maxHeartbeats 4000000 in
set_option maxRecDepth 100000 in
theorem k_m_reset_b138 {p : Program} {l : Launch} {e : Env} {s : State} {m : MethodId} {args : Array Value} {below : List Frame} {meth : Method} {c : Code} {A : Nat → Prop} (g : Gm) (C : cX p s m args meth c A cX11_reset none 2 RX11 wq_X11_reset (gD g) vwCl (mty g) (mz g)) (rec : CS → Int32 → Option (CS)) (orec : CS → Int32 → Prop) (hrec : ∀ (st : CS) (x1 : Int32) (H : Heap) (locs : List Loc) (ls : Array Slot), cI (gD g) vwCl (mw g) A s st H locs → lv_has ls 2 [(0, .ref (gad g 0)), (1, .int x1)] → orec st x1 → ∀ (X : CS), some X = rec st x1 → W p l e rm_m_reset s m args below meth c H locs 0 0 (MQ below (cQv (gD g) vwCl (mty g) (mw g) A X) args s 0 0 A) (F0 m 110 ls [])) (st : CS) (x1 : Int32) (H : Heap) (locs : List Loc) (ls : Array Slot) (hI : cI (gD g) vwCl (mw g) A s st H locs) (hl : lv_has ls 2 [(0, .ref (gad g 0)), (1, .int x1)]) (hO : o_m_reset_b138 orec st x1) (X : CS) (hF : some X = m_reset_b138 rec st x1) : W p l e rm_m_reset s m args below meth c H locs 0 0 (MQ below (cQv (gD g) vwCl (mty g) (mw g) A X) args s 0 0 A) (F0 m 138 ls []) := by
  obtain ⟨hx, hb, hr, hml, hown, hts, hlocks, hK, hA, hZ, hzo⟩ := id C
  unfold m_reset_b138 at hF
  unfold o_m_reset_b138 at hO
  refine lv_aload_n hx hb dX11_reset_138 rfl (lv_at hl 0 rfl) ?_
  refine va_get (D := gD g) (ci := 11) (C := RX11) (T := TX11) (N := 50) (v := .ref (gad g 10)) hx hb hts (fun w h => List.mem_cons_of_mem _ (isX110 w h)) hown hK hI.1 0 rfl rfl 14 (by decide) (hts _ (List.mem_cons_of_mem _ mw194)) (fun _ h9 => h9) rfl dX11_reset_139 ?_
  refine lv_iload_n hx hb dX11_reset_142 rfl (lv_at hl 1 rfl) ?_
  refine lv_iconst (v := (0 : Int32)) hx hb dX11_reset_143 (by decide) ?_
  have hq_144_0 := hO.1
  have hO := hO.2
  refine va_iast (f := (gA st 9)) hx hb hK hI.1 hI.2.1 hI.2.2 10 9 rfl rfl hq_144_0 dX11_reset_144 (fun H locs hP hD hS => ?_)
  have hI : cI (gD g) vwCl (mw g) A s (sA st 9 (upd (gA st 9) x1.toNatClampNeg (0 : Int32))) H locs := ⟨hP, hD, hS⟩
  exact k_m_reset_b145 g C rec orec hrec (sA st 9 (upd (gA st 9) x1.toNatClampNeg (0 : Int32))) x1 H locs ls hI (lv_sub hl [0, 1] rfl) hO X hF
def m_reset_b131 (rec : CS → Int32 → Option (CS)) (st : CS) (x1 : Int32) : Option (CS) := (m_reset_b138 rec (sA st 8 (upd (gA st 8) x1.toNatClampNeg (0 : Int32))) x1)
def o_m_reset_b131 (orec : CS → Int32 → Prop) (st : CS) (x1 : Int32) : Prop := (vp_in x1 16 ∧ (o_m_reset_b138 orec (sA st 8 (upd (gA st 8) x1.toNatClampNeg (0 : Int32))) x1))
set_option maxHeartbeats 4000000 in
set_option maxRecDepth 100000 in
theorem k_m_reset_b131 {p : Program} {l : Launch} {e : Env} {s : State} {m : MethodId} {args : Array Value} {below : List Frame} {meth : Method} {c : Code} {A : Nat → Prop} (g : Gm) (C : cX p s m args meth c A cX11_reset none 2 RX11 wq_X11_reset (gD g) vwCl (mty g) (mz g)) (rec : CS → Int32 → Option (CS)) (orec : CS → Int32 → Prop) (hrec : ∀ (st : CS) (x1 : Int32) (H : Heap) (locs : List Loc) (ls : Array Slot), cI (gD g) vwCl (mw g) A s st H locs → lv_has ls 2 [(0, .ref (gad g 0)), (1, .int x1)] → orec st x1 → ∀ (X : CS), some X = rec st x1 → W p l e rm_m_reset s m args below meth c H locs 0 0 (MQ below (cQv (gD g) vwCl (mty g) (mw g) A X) args s 0 0 A) (F0 m 110 ls [])) (st : CS) (x1 : Int32) (H : Heap) (locs : List Loc) (ls : Array Slot) (hI : cI (gD g) vwCl (mw g) A s st H locs) (hl : lv_has ls 2 [(0, .ref (gad g 0)), (1, .int x1)]) (hO : o_m_reset_b131 orec st x1) (X : CS) (hF : some X = m_reset_b131 rec st x1) : W p l e rm_m_reset s m args below meth c H locs 0 0 (MQ below (cQv (gD g) vwCl (mty g) (mw g) A X) args s 0 0 A) (F0 m 131 ls []) := by
  obtain ⟨hx, hb, hr, hml, hown, hts, hlocks, hK, hA, hZ, hzo⟩ := id C
  unfold m_reset_b131 at hF
  unfold o_m_reset_b131 at hO
  refine lv_aload_n hx hb dX11_reset_131 rfl (lv_at hl 0 rfl) ?_
  refine va_get (D := gD g) (ci := 11) (C := RX11) (T := TX11) (N := 50) (v := .ref (gad g 9)) hx hb hts (fun w h => List.mem_cons_of_mem _ (isX110 w h)) hown hK hI.1 0 rfl rfl 13 (by decide) (hts _ (List.mem_cons_of_mem _ mw193)) (fun _ h9 => h9) rfl dX11_reset_132 ?_
  refine lv_iload_n hx hb dX11_reset_135 rfl (lv_at hl 1 rfl) ?_
  refine lv_iconst (v := (0 : Int32)) hx hb dX11_reset_136 (by decide) ?_
  have hq_137_0 := hO.1
  have hO := hO.2
  refine va_iast (f := (gA st 8)) hx hb hK hI.1 hI.2.1 hI.2.2 9 8 rfl rfl hq_137_0 dX11_reset_137 (fun H locs hP hD hS => ?_)
  have hI : cI (gD g) vwCl (mw g) A s (sA st 8 (upd (gA st 8) x1.toNatClampNeg (0 : Int32))) H locs := ⟨hP, hD, hS⟩
  exact k_m_reset_b138 g C rec orec hrec (sA st 8 (upd (gA st 8) x1.toNatClampNeg (0 : Int32))) x1 H locs ls hI (lv_sub hl [0, 1] rfl) hO X hF
def m_reset_b130 (rec : CS → Int32 → Option (CS)) (st : CS) (x1 : Int32) (y1 : Int32) (y0 : Int32) : Option (CS) := (m_reset_b131 rec (sA st 7 (upd (gA st 7) y1.toNatClampNeg y0)) x1)
def o_m_reset_b130 (orec : CS → Int32 → Prop) (st : CS) (x1 : Int32) (y1 : Int32) (y0 : Int32) : Prop := (vp_in y1 16 ∧ (o_m_reset_b131 orec (sA st 7 (upd (gA st 7) y1.toNatClampNeg y0)) x1))
set_option maxHeartbeats 4000000 in
set_option maxRecDepth 100000 in
theorem k_m_reset_b130 {p : Program} {l : Launch} {e : Env} {s : State} {m : MethodId} {args : Array Value} {below : List Frame} {meth : Method} {c : Code} {A : Nat → Prop} (g : Gm) (C : cX p s m args meth c A cX11_reset none 2 RX11 wq_X11_reset (gD g) vwCl (mty g) (mz g)) (rec : CS → Int32 → Option (CS)) (orec : CS → Int32 → Prop) (hrec : ∀ (st : CS) (x1 : Int32) (H : Heap) (locs : List Loc) (ls : Array Slot), cI (gD g) vwCl (mw g) A s st H locs → lv_has ls 2 [(0, .ref (gad g 0)), (1, .int x1)] → orec st x1 → ∀ (X : CS), some X = rec st x1 → W p l e rm_m_reset s m args below meth c H locs 0 0 (MQ below (cQv (gD g) vwCl (mty g) (mw g) A X) args s 0 0 A) (F0 m 110 ls [])) (st : CS) (x1 : Int32) (y1 : Int32) (y0 : Int32) (H : Heap) (locs : List Loc) (ls : Array Slot) (hI : cI (gD g) vwCl (mw g) A s st H locs) (hl : lv_has ls 2 [(0, .ref (gad g 0)), (1, .int x1)]) (hO : o_m_reset_b130 orec st x1 y1 y0) (X : CS) (hF : some X = m_reset_b130 rec st x1 y1 y0) : W p l e rm_m_reset s m args below meth c H locs 0 0 (MQ below (cQv (gD g) vwCl (mty g) (mw g) A X) args s 0 0 A) (F0 m 130 ls [.int y0, .int y1, .ref (gad g 8)]) := by
  obtain ⟨hx, hb, hr, hml, hown, hts, hlocks, hK, hA, hZ, hzo⟩ := id C
  unfold m_reset_b130 at hF
  unfold o_m_reset_b130 at hO
  have hq_130_0 := hO.1
  have hO := hO.2
  refine va_iast (f := (gA st 7)) hx hb hK hI.1 hI.2.1 hI.2.2 8 7 rfl rfl hq_130_0 dX11_reset_130 (fun H locs hP hD hS => ?_)
  have hI : cI (gD g) vwCl (mw g) A s (sA st 7 (upd (gA st 7) y1.toNatClampNeg y0)) H locs := ⟨hP, hD, hS⟩
  exact k_m_reset_b131 g C rec orec hrec (sA st 7 (upd (gA st 7) y1.toNatClampNeg y0)) x1 H locs ls hI (lv_sub hl [0, 1] rfl) hO X hF
def m_reset_b110 : Nat → CS → Int32 → Option (CS)
  | 0, _, _ => none
  | n + 1, st, x1 => (if ((16 : Int32) ≤ x1) then (some (m_reset_b173t (sI (sI (sI (sI st 5 (0 : Int32)) 6 (0 : Int32)) 7 (0 : Int32)) 8 (0 : Int32)) (0 : Int32))) else (if (x1 = 0) then (m_reset_b130 (m_reset_b110 n) st x1 x1 (0 : Int32)) else (m_reset_b130 (m_reset_b110 n) st x1 x1 (-1 : Int32))))
def o_m_reset_b110 : Nat → CS → Int32 → Prop
  | 0, _, _ => True
  | n + 1, st, x1 => ((((16 : Int32) ≤ x1) → (o_m_reset_b173t (sI (sI (sI (sI st 5 (0 : Int32)) 6 (0 : Int32)) 7 (0 : Int32)) 8 (0 : Int32)) (0 : Int32))) ∧ (¬ ((16 : Int32) ≤ x1) → (((x1 = 0) → (o_m_reset_b130 (o_m_reset_b110 n) st x1 x1 (0 : Int32))) ∧ (¬ (x1 = 0) → (o_m_reset_b130 (o_m_reset_b110 n) st x1 x1 (-1 : Int32))))))
set_option maxHeartbeats 4000000 in
set_option maxRecDepth 100000 in
theorem k_m_reset_b110 {p : Program} {l : Launch} {e : Env} {s : State} {m : MethodId} {args : Array Value} {below : List Frame} {meth : Method} {c : Code} {A : Nat → Prop} (g : Gm) (C : cX p s m args meth c A cX11_reset none 2 RX11 wq_X11_reset (gD g) vwCl (mty g) (mz g)) : ∀ (n : Nat) (st : CS) (x1 : Int32) (H : Heap) (locs : List Loc) (ls : Array Slot), cI (gD g) vwCl (mw g) A s st H locs → lv_has ls 2 [(0, .ref (gad g 0)), (1, .int x1)] → o_m_reset_b110 n st x1 → ∀ (X : CS), some X = m_reset_b110 n st x1 → W p l e rm_m_reset s m args below meth c H locs 0 0 (MQ below (cQv (gD g) vwCl (mty g) (mw g) A X) args s 0 0 A) (F0 m 110 ls []) := by
  obtain ⟨hx, hb, hr, hml, hown, hts, hlocks, hK, hA, hZ, hzo⟩ := id C
  intro n
  induction n with
  | zero => intro st x1 H locs ls hI hl hO X hF; exact absurd hF (by simp [m_reset_b110])
  | succ n ih =>
    intro st x1 H locs ls hI hl hO X hF
    rw [m_reset_b110] at hF
    rw [o_m_reset_b110] at hO
    refine lv_iload_n hx hb dX11_reset_110 rfl (lv_at hl 1 rfl) ?_
    refine lv_bipush (v := (16 : Int32)) hx hb dX11_reset_111 (by decide) ?_
    refine lv_icmp_ge (tgt := 151) hx hb dX11_reset_113 (by decide) (fun c_113 => ?_) (fun c_113 => ?_)
    · have hF := hF.trans (if_pos c_113)
      have hO := hO.1 c_113
      refine lv_aload_n hx hb dX11_reset_151 rfl (lv_at hl 0 rfl) ?_
      refine lv_iconst (v := (0 : Int32)) hx hb dX11_reset_152 (by decide) ?_
      refine va_put (D := gD g) (ci := 11) (C := RX11) (T := TX11) (N := 50) (v := .int (0 : Int32)) (ty := .int) hx hb hts (fun w h => List.mem_cons_of_mem _ (isX110 w h)) tyX11 tyX11_ok nmX11 hown hK hI.1 hI.2.1 hI.2.2 0 rfl rfl 15 (by decide) (hts _ (List.mem_cons_of_mem _ mw211)) (fun _ h9 => h9) rfl (by decide +kernel) rfl rfl (Nat.le_of_ble_eq_true rfl) dX11_reset_153 (fun H locs hP hD hS => ?_)
      have hI : cI (gD g) vwCl (mw g) A s (sI st 5 (0 : Int32)) H locs := ⟨hP, hD, hS⟩
      refine lv_aload_n hx hb dX11_reset_156 rfl (lv_at hl 0 rfl) ?_
      refine lv_iconst (v := (0 : Int32)) hx hb dX11_reset_157 (by decide) ?_
      refine va_put (D := gD g) (ci := 11) (C := RX11) (T := TX11) (N := 50) (v := .int (0 : Int32)) (ty := .int) hx hb hts (fun w h => List.mem_cons_of_mem _ (isX110 w h)) tyX11 tyX11_ok nmX11 hown hK hI.1 hI.2.1 hI.2.2 0 rfl rfl 16 (by decide) (hts _ (List.mem_cons_of_mem _ mw212)) (fun _ h9 => h9) rfl (by decide +kernel) rfl rfl (Nat.le_of_ble_eq_true rfl) dX11_reset_158 (fun H locs hP hD hS => ?_)
      have hI : cI (gD g) vwCl (mw g) A s (sI (sI st 5 (0 : Int32)) 6 (0 : Int32)) H locs := ⟨hP, hD, hS⟩
      refine lv_aload_n hx hb dX11_reset_161 rfl (lv_at hl 0 rfl) ?_
      refine lv_iconst (v := (0 : Int32)) hx hb dX11_reset_162 (by decide) ?_
      refine va_put (D := gD g) (ci := 11) (C := RX11) (T := TX11) (N := 50) (v := .int (0 : Int32)) (ty := .int) hx hb hts (fun w h => List.mem_cons_of_mem _ (isX110 w h)) tyX11 tyX11_ok nmX11 hown hK hI.1 hI.2.1 hI.2.2 0 rfl rfl 17 (by decide) (hts _ (List.mem_cons_of_mem _ mw213)) (fun _ h9 => h9) rfl (by decide +kernel) rfl rfl (Nat.le_of_ble_eq_true rfl) dX11_reset_163 (fun H locs hP hD hS => ?_)
      have hI : cI (gD g) vwCl (mw g) A s (sI (sI (sI st 5 (0 : Int32)) 6 (0 : Int32)) 7 (0 : Int32)) H locs := ⟨hP, hD, hS⟩
      refine lv_aload_n hx hb dX11_reset_166 rfl (lv_at hl 0 rfl) ?_
      refine lv_iconst (v := (0 : Int32)) hx hb dX11_reset_167 (by decide) ?_
      refine va_put (D := gD g) (ci := 11) (C := RX11) (T := TX11) (N := 50) (v := .int (0 : Int32)) (ty := .int) hx hb hts (fun w h => List.mem_cons_of_mem _ (isX110 w h)) tyX11 tyX11_ok nmX11 hown hK hI.1 hI.2.1 hI.2.2 0 rfl rfl 18 (by decide) (hts _ (List.mem_cons_of_mem _ mw214)) (fun _ h9 => h9) rfl (by decide +kernel) rfl rfl (Nat.le_of_ble_eq_true rfl) dX11_reset_168 (fun H locs hP hD hS => ?_)
      have hI : cI (gD g) vwCl (mw g) A s (sI (sI (sI (sI st 5 (0 : Int32)) 6 (0 : Int32)) 7 (0 : Int32)) 8 (0 : Int32)) H locs := ⟨hP, hD, hS⟩
      refine lv_iconst (v := (0 : Int32)) hx hb dX11_reset_171 (by decide) ?_
      refine lv_istore_n (lv' := [(1, .int (0 : Int32)), (0, .ref (gad g 0))]) hx hb dX11_reset_172 rfl hl (by decide) rfl (fun ls hl => ?_)
      have hF := Option.some.inj hF
      exact k_m_reset_b173t g C (sI (sI (sI (sI st 5 (0 : Int32)) 6 (0 : Int32)) 7 (0 : Int32)) 8 (0 : Int32)) (0 : Int32) H locs ls hI (lv_sub hl [1, 0] rfl) hO X hF
    · have hF := hF.trans (if_neg c_113)
      have hO := hO.2 c_113
      refine lv_aload_n hx hb dX11_reset_116 rfl (lv_at hl 0 rfl) ?_
      refine va_get (D := gD g) (ci := 11) (C := RX11) (T := TX11) (N := 50) (v := .ref (gad g 8)) hx hb hts (fun w h => List.mem_cons_of_mem _ (isX110 w h)) hown hK hI.1 0 rfl rfl 12 (by decide) (hts _ (List.mem_cons_of_mem _ mw192)) (fun _ h9 => h9) rfl dX11_reset_117 ?_
      refine lv_iload_n hx hb dX11_reset_120 rfl (lv_at hl 1 rfl) ?_
      refine lv_iload_n hx hb dX11_reset_121 rfl (lv_at hl 1 rfl) ?_
      refine lv_if_ne (tgt := 129) hx hb dX11_reset_122 (by decide) (fun c_122 => ?_) (fun c_122 => ?_)
      · have hF := hF.trans (if_neg c_122)
        have hO := hO.2 c_122
        refine lv_iconst (v := (-1 : Int32)) hx hb dX11_reset_129 (by decide) ?_
        exact k_m_reset_b130 g C (m_reset_b110 n) (o_m_reset_b110 n) ih st x1 x1 (-1 : Int32) H locs ls hI (lv_sub hl [0, 1] rfl) hO X hF
      · have hF := hF.trans (if_pos c_122)
        have hO := hO.1 c_122
        refine lv_iconst (v := (0 : Int32)) hx hb dX11_reset_125 (by decide) ?_
        refine lv_goto (tgt := 130) hx hb dX11_reset_126 (by decide) ?_
        exact k_m_reset_b130 g C (m_reset_b110 n) (o_m_reset_b110 n) ih st x1 x1 (0 : Int32) H locs ls hI (lv_sub hl [0, 1] rfl) hO X hF
def m_reset_b110t (st : CS) (x1 : Int32) : CS := (m_reset_b110 (17) st x1).getD st
def o_m_reset_b110t (st : CS) (x1 : Int32) : Prop := o_m_reset_b110 (17) st x1 ∧ ∃ r, m_reset_b110 (17) st x1 = some r
set_option maxHeartbeats 4000000 in
set_option maxRecDepth 100000 in
theorem k_m_reset_b110t {p : Program} {l : Launch} {e : Env} {s : State} {m : MethodId} {args : Array Value} {below : List Frame} {meth : Method} {c : Code} {A : Nat → Prop} (g : Gm) (C : cX p s m args meth c A cX11_reset none 2 RX11 wq_X11_reset (gD g) vwCl (mty g) (mz g)) (st : CS) (x1 : Int32) (H : Heap) (locs : List Loc) (ls : Array Slot) (hI : cI (gD g) vwCl (mw g) A s st H locs) (hl : lv_has ls 2 [(0, .ref (gad g 0)), (1, .int x1)]) (hO : o_m_reset_b110t st x1) (X : CS) (hF : X = m_reset_b110t st x1) : W p l e rm_m_reset s m args below meth c H locs 0 0 (MQ below (cQv (gD g) vwCl (mty g) (mw g) A X) args s 0 0 A) (F0 m 110 ls []) := by
  refine k_m_reset_b110 g C (17) st x1 H locs ls hI hl hO.1 X ?_
  rw [hF]
  exact some_getD hO.2
def m_reset_b96 (rec : CS → Int32 → Option (CS)) (st : CS) (x1 : Int32) : Option (CS) := (rec st (x1 + (1 : Int32)))
def o_m_reset_b96 (orec : CS → Int32 → Prop) (st : CS) (x1 : Int32) : Prop := (orec st (x1 + (1 : Int32)))
set_option maxHeartbeats 4000000 in
set_option maxRecDepth 100000 in
theorem k_m_reset_b96 {p : Program} {l : Launch} {e : Env} {s : State} {m : MethodId} {args : Array Value} {below : List Frame} {meth : Method} {c : Code} {A : Nat → Prop} (g : Gm) (C : cX p s m args meth c A cX11_reset none 2 RX11 wq_X11_reset (gD g) vwCl (mty g) (mz g)) (rec : CS → Int32 → Option (CS)) (orec : CS → Int32 → Prop) (hrec : ∀ (st : CS) (x1 : Int32) (H : Heap) (locs : List Loc) (ls : Array Slot), cI (gD g) vwCl (mw g) A s st H locs → lv_has ls 2 [(0, .ref (gad g 0)), (1, .int x1)] → orec st x1 → ∀ (X : CS), some X = rec st x1 → W p l e rm_m_reset s m args below meth c H locs 0 0 (MQ below (cQv (gD g) vwCl (mty g) (mw g) A X) args s 0 0 A) (F0 m 49 ls [])) (st : CS) (x1 : Int32) (H : Heap) (locs : List Loc) (ls : Array Slot) (hI : cI (gD g) vwCl (mw g) A s st H locs) (hl : lv_has ls 2 [(0, .ref (gad g 0)), (1, .int x1)]) (hO : o_m_reset_b96 orec st x1) (X : CS) (hF : some X = m_reset_b96 rec st x1) : W p l e rm_m_reset s m args below meth c H locs 0 0 (MQ below (cQv (gD g) vwCl (mty g) (mw g) A X) args s 0 0 A) (F0 m 96 ls []) := by
  obtain ⟨hx, hb, hr, hml, hown, hts, hlocks, hK, hA, hZ, hzo⟩ := id C
  unfold m_reset_b96 at hF
  unfold o_m_reset_b96 at hO
  refine lv_iinc (v := (x1 + (1 : Int32))) (lv' := [(1, .int (x1 + (1 : Int32))), (0, .ref (gad g 0))]) hx hb dX11_reset_96 hl (k := 1) rfl rfl (by decide) rfl (fun ls hl => ?_)
  refine lv_goto (tgt := 49) hx hb dX11_reset_99 (by decide) ?_
  exact hrec st (x1 + (1 : Int32)) H locs ls hI (lv_sub hl [1, 0] rfl) hO X hF
def m_reset_b89 (rec : CS → Int32 → Option (CS)) (st : CS) (x1 : Int32) : Option (CS) := (m_reset_b96 rec (sA st 15 (upd (gA st 15) x1.toNatClampNeg (0 : Int32))) x1)
def o_m_reset_b89 (orec : CS → Int32 → Prop) (st : CS) (x1 : Int32) : Prop := (vp_in x1 2 ∧ (o_m_reset_b96 orec (sA st 15 (upd (gA st 15) x1.toNatClampNeg (0 : Int32))) x1))
set_option maxHeartbeats 4000000 in
set_option maxRecDepth 100000 in
theorem k_m_reset_b89 {p : Program} {l : Launch} {e : Env} {s : State} {m : MethodId} {args : Array Value} {below : List Frame} {meth : Method} {c : Code} {A : Nat → Prop} (g : Gm) (C : cX p s m args meth c A cX11_reset none 2 RX11 wq_X11_reset (gD g) vwCl (mty g) (mz g)) (rec : CS → Int32 → Option (CS)) (orec : CS → Int32 → Prop) (hrec : ∀ (st : CS) (x1 : Int32) (H : Heap) (locs : List Loc) (ls : Array Slot), cI (gD g) vwCl (mw g) A s st H locs → lv_has ls 2 [(0, .ref (gad g 0)), (1, .int x1)] → orec st x1 → ∀ (X : CS), some X = rec st x1 → W p l e rm_m_reset s m args below meth c H locs 0 0 (MQ below (cQv (gD g) vwCl (mty g) (mw g) A X) args s 0 0 A) (F0 m 49 ls [])) (st : CS) (x1 : Int32) (H : Heap) (locs : List Loc) (ls : Array Slot) (hI : cI (gD g) vwCl (mw g) A s st H locs) (hl : lv_has ls 2 [(0, .ref (gad g 0)), (1, .int x1)]) (hO : o_m_reset_b89 orec st x1) (X : CS) (hF : some X = m_reset_b89 rec st x1) : W p l e rm_m_reset s m args below meth c H locs 0 0 (MQ below (cQv (gD g) vwCl (mty g) (mw g) A X) args s 0 0 A) (F0 m 89 ls []) := by
  obtain ⟨hx, hb, hr, hml, hown, hts, hlocks, hK, hA, hZ, hzo⟩ := id C
  unfold m_reset_b89 at hF
  unfold o_m_reset_b89 at hO
  refine lv_aload_n hx hb dX11_reset_89 rfl (lv_at hl 0 rfl) ?_
  refine va_get (D := gD g) (ci := 11) (C := RX11) (T := TX11) (N := 50) (v := .ref (gad g 16)) hx hb hts (fun w h => List.mem_cons_of_mem _ (isX110 w h)) hown hK hI.1 0 rfl rfl 26 (by decide) (hts _ (List.mem_cons_of_mem _ mw200)) (fun _ h9 => h9) rfl dX11_reset_90 ?_
  refine lv_iload_n hx hb dX11_reset_93 rfl (lv_at hl 1 rfl) ?_
  refine lv_iconst (v := (0 : Int32)) hx hb dX11_reset_94 (by decide) ?_
  have hq_95_0 := hO.1
  have hO := hO.2
  refine va_iast (f := (gA st 15)) hx hb hK hI.1 hI.2.1 hI.2.2 16 15 rfl rfl hq_95_0 dX11_reset_95 (fun H locs hP hD hS => ?_)
  have hI : cI (gD g) vwCl (mw g) A s (sA st 15 (upd (gA st 15) x1.toNatClampNeg (0 : Int32))) H locs := ⟨hP, hD, hS⟩
  exact k_m_reset_b96 g C rec orec hrec (sA st 15 (upd (gA st 15) x1.toNatClampNeg (0 : Int32))) x1 H locs ls hI (lv_sub hl [0, 1] rfl) hO X hF
def m_reset_b82 (rec : CS → Int32 → Option (CS)) (st : CS) (x1 : Int32) : Option (CS) := (m_reset_b89 rec (sA st 14 (upd (gA st 14) x1.toNatClampNeg (0 : Int32))) x1)
def o_m_reset_b82 (orec : CS → Int32 → Prop) (st : CS) (x1 : Int32) : Prop := (vp_in x1 2 ∧ (o_m_reset_b89 orec (sA st 14 (upd (gA st 14) x1.toNatClampNeg (0 : Int32))) x1))
set_option maxHeartbeats 4000000 in
set_option maxRecDepth 100000 in
theorem k_m_reset_b82 {p : Program} {l : Launch} {e : Env} {s : State} {m : MethodId} {args : Array Value} {below : List Frame} {meth : Method} {c : Code} {A : Nat → Prop} (g : Gm) (C : cX p s m args meth c A cX11_reset none 2 RX11 wq_X11_reset (gD g) vwCl (mty g) (mz g)) (rec : CS → Int32 → Option (CS)) (orec : CS → Int32 → Prop) (hrec : ∀ (st : CS) (x1 : Int32) (H : Heap) (locs : List Loc) (ls : Array Slot), cI (gD g) vwCl (mw g) A s st H locs → lv_has ls 2 [(0, .ref (gad g 0)), (1, .int x1)] → orec st x1 → ∀ (X : CS), some X = rec st x1 → W p l e rm_m_reset s m args below meth c H locs 0 0 (MQ below (cQv (gD g) vwCl (mty g) (mw g) A X) args s 0 0 A) (F0 m 49 ls [])) (st : CS) (x1 : Int32) (H : Heap) (locs : List Loc) (ls : Array Slot) (hI : cI (gD g) vwCl (mw g) A s st H locs) (hl : lv_has ls 2 [(0, .ref (gad g 0)), (1, .int x1)]) (hO : o_m_reset_b82 orec st x1) (X : CS) (hF : some X = m_reset_b82 rec st x1) : W p l e rm_m_reset s m args below meth c H locs 0 0 (MQ below (cQv (gD g) vwCl (mty g) (mw g) A X) args s 0 0 A) (F0 m 82 ls []) := by
  obtain ⟨hx, hb, hr, hml, hown, hts, hlocks, hK, hA, hZ, hzo⟩ := id C
  unfold m_reset_b82 at hF
  unfold o_m_reset_b82 at hO
  refine lv_aload_n hx hb dX11_reset_82 rfl (lv_at hl 0 rfl) ?_
  refine va_get (D := gD g) (ci := 11) (C := RX11) (T := TX11) (N := 50) (v := .ref (gad g 15)) hx hb hts (fun w h => List.mem_cons_of_mem _ (isX110 w h)) hown hK hI.1 0 rfl rfl 25 (by decide) (hts _ (List.mem_cons_of_mem _ mw199)) (fun _ h9 => h9) rfl dX11_reset_83 ?_
  refine lv_iload_n hx hb dX11_reset_86 rfl (lv_at hl 1 rfl) ?_
  refine lv_iconst (v := (0 : Int32)) hx hb dX11_reset_87 (by decide) ?_
  have hq_88_0 := hO.1
  have hO := hO.2
  refine va_iast (f := (gA st 14)) hx hb hK hI.1 hI.2.1 hI.2.2 15 14 rfl rfl hq_88_0 dX11_reset_88 (fun H locs hP hD hS => ?_)
  have hI : cI (gD g) vwCl (mw g) A s (sA st 14 (upd (gA st 14) x1.toNatClampNeg (0 : Int32))) H locs := ⟨hP, hD, hS⟩
  exact k_m_reset_b89 g C rec orec hrec (sA st 14 (upd (gA st 14) x1.toNatClampNeg (0 : Int32))) x1 H locs ls hI (lv_sub hl [0, 1] rfl) hO X hF
def m_reset_b75 (rec : CS → Int32 → Option (CS)) (st : CS) (x1 : Int32) : Option (CS) := (m_reset_b82 rec (sA st 13 (upd (gA st 13) x1.toNatClampNeg (0 : Int32))) x1)
def o_m_reset_b75 (orec : CS → Int32 → Prop) (st : CS) (x1 : Int32) : Prop := (vp_in x1 2 ∧ (o_m_reset_b82 orec (sA st 13 (upd (gA st 13) x1.toNatClampNeg (0 : Int32))) x1))
set_option maxHeartbeats 4000000 in
set_option maxRecDepth 100000 in
theorem k_m_reset_b75 {p : Program} {l : Launch} {e : Env} {s : State} {m : MethodId} {args : Array Value} {below : List Frame} {meth : Method} {c : Code} {A : Nat → Prop} (g : Gm) (C : cX p s m args meth c A cX11_reset none 2 RX11 wq_X11_reset (gD g) vwCl (mty g) (mz g)) (rec : CS → Int32 → Option (CS)) (orec : CS → Int32 → Prop) (hrec : ∀ (st : CS) (x1 : Int32) (H : Heap) (locs : List Loc) (ls : Array Slot), cI (gD g) vwCl (mw g) A s st H locs → lv_has ls 2 [(0, .ref (gad g 0)), (1, .int x1)] → orec st x1 → ∀ (X : CS), some X = rec st x1 → W p l e rm_m_reset s m args below meth c H locs 0 0 (MQ below (cQv (gD g) vwCl (mty g) (mw g) A X) args s 0 0 A) (F0 m 49 ls [])) (st : CS) (x1 : Int32) (H : Heap) (locs : List Loc) (ls : Array Slot) (hI : cI (gD g) vwCl (mw g) A s st H locs) (hl : lv_has ls 2 [(0, .ref (gad g 0)), (1, .int x1)]) (hO : o_m_reset_b75 orec st x1) (X : CS) (hF : some X = m_reset_b75 rec st x1) : W p l e rm_m_reset s m args below meth c H locs 0 0 (MQ below (cQv (gD g) vwCl (mty g) (mw g) A X) args s 0 0 A) (F0 m 75 ls []) := by
  obtain ⟨hx, hb, hr, hml, hown, hts, hlocks, hK, hA, hZ, hzo⟩ := id C
  unfold m_reset_b75 at hF
  unfold o_m_reset_b75 at hO
  refine lv_aload_n hx hb dX11_reset_75 rfl (lv_at hl 0 rfl) ?_
  refine va_get (D := gD g) (ci := 11) (C := RX11) (T := TX11) (N := 50) (v := .ref (gad g 14)) hx hb hts (fun w h => List.mem_cons_of_mem _ (isX110 w h)) hown hK hI.1 0 rfl rfl 24 (by decide) (hts _ (List.mem_cons_of_mem _ mw198)) (fun _ h9 => h9) rfl dX11_reset_76 ?_
  refine lv_iload_n hx hb dX11_reset_79 rfl (lv_at hl 1 rfl) ?_
  refine lv_iconst (v := (0 : Int32)) hx hb dX11_reset_80 (by decide) ?_
  have hq_81_0 := hO.1
  have hO := hO.2
  refine va_iast (f := (gA st 13)) hx hb hK hI.1 hI.2.1 hI.2.2 14 13 rfl rfl hq_81_0 dX11_reset_81 (fun H locs hP hD hS => ?_)
  have hI : cI (gD g) vwCl (mw g) A s (sA st 13 (upd (gA st 13) x1.toNatClampNeg (0 : Int32))) H locs := ⟨hP, hD, hS⟩
  exact k_m_reset_b82 g C rec orec hrec (sA st 13 (upd (gA st 13) x1.toNatClampNeg (0 : Int32))) x1 H locs ls hI (lv_sub hl [0, 1] rfl) hO X hF
def m_reset_b68 (rec : CS → Int32 → Option (CS)) (st : CS) (x1 : Int32) : Option (CS) := (m_reset_b75 rec (sA st 12 (upd (gA st 12) x1.toNatClampNeg (0 : Int32))) x1)
def o_m_reset_b68 (orec : CS → Int32 → Prop) (st : CS) (x1 : Int32) : Prop := (vp_in x1 2 ∧ (o_m_reset_b75 orec (sA st 12 (upd (gA st 12) x1.toNatClampNeg (0 : Int32))) x1))
set_option maxHeartbeats 4000000 in
set_option maxRecDepth 100000 in
theorem k_m_reset_b68 {p : Program} {l : Launch} {e : Env} {s : State} {m : MethodId} {args : Array Value} {below : List Frame} {meth : Method} {c : Code} {A : Nat → Prop} (g : Gm) (C : cX p s m args meth c A cX11_reset none 2 RX11 wq_X11_reset (gD g) vwCl (mty g) (mz g)) (rec : CS → Int32 → Option (CS)) (orec : CS → Int32 → Prop) (hrec : ∀ (st : CS) (x1 : Int32) (H : Heap) (locs : List Loc) (ls : Array Slot), cI (gD g) vwCl (mw g) A s st H locs → lv_has ls 2 [(0, .ref (gad g 0)), (1, .int x1)] → orec st x1 → ∀ (X : CS), some X = rec st x1 → W p l e rm_m_reset s m args below meth c H locs 0 0 (MQ below (cQv (gD g) vwCl (mty g) (mw g) A X) args s 0 0 A) (F0 m 49 ls [])) (st : CS) (x1 : Int32) (H : Heap) (locs : List Loc) (ls : Array Slot) (hI : cI (gD g) vwCl (mw g) A s st H locs) (hl : lv_has ls 2 [(0, .ref (gad g 0)), (1, .int x1)]) (hO : o_m_reset_b68 orec st x1) (X : CS) (hF : some X = m_reset_b68 rec st x1) : W p l e rm_m_reset s m args below meth c H locs 0 0 (MQ below (cQv (gD g) vwCl (mty g) (mw g) A X) args s 0 0 A) (F0 m 68 ls []) := by
  obtain ⟨hx, hb, hr, hml, hown, hts, hlocks, hK, hA, hZ, hzo⟩ := id C
  unfold m_reset_b68 at hF
  unfold o_m_reset_b68 at hO
  refine lv_aload_n hx hb dX11_reset_68 rfl (lv_at hl 0 rfl) ?_
  refine va_get (D := gD g) (ci := 11) (C := RX11) (T := TX11) (N := 50) (v := .ref (gad g 13)) hx hb hts (fun w h => List.mem_cons_of_mem _ (isX110 w h)) hown hK hI.1 0 rfl rfl 23 (by decide) (hts _ (List.mem_cons_of_mem _ mw197)) (fun _ h9 => h9) rfl dX11_reset_69 ?_
  refine lv_iload_n hx hb dX11_reset_72 rfl (lv_at hl 1 rfl) ?_
  refine lv_iconst (v := (0 : Int32)) hx hb dX11_reset_73 (by decide) ?_
  have hq_74_0 := hO.1
  have hO := hO.2
  refine va_iast (f := (gA st 12)) hx hb hK hI.1 hI.2.1 hI.2.2 13 12 rfl rfl hq_74_0 dX11_reset_74 (fun H locs hP hD hS => ?_)
  have hI : cI (gD g) vwCl (mw g) A s (sA st 12 (upd (gA st 12) x1.toNatClampNeg (0 : Int32))) H locs := ⟨hP, hD, hS⟩
  exact k_m_reset_b75 g C rec orec hrec (sA st 12 (upd (gA st 12) x1.toNatClampNeg (0 : Int32))) x1 H locs ls hI (lv_sub hl [0, 1] rfl) hO X hF
def m_reset_b61 (rec : CS → Int32 → Option (CS)) (st : CS) (x1 : Int32) : Option (CS) := (m_reset_b68 rec (sA st 3 (upd (gA st 3) x1.toNatClampNeg (0 : Int32))) x1)
def o_m_reset_b61 (orec : CS → Int32 → Prop) (st : CS) (x1 : Int32) : Prop := (vp_in x1 2 ∧ (o_m_reset_b68 orec (sA st 3 (upd (gA st 3) x1.toNatClampNeg (0 : Int32))) x1))
set_option maxHeartbeats 4000000 in
set_option maxRecDepth 100000 in
theorem k_m_reset_b61 {p : Program} {l : Launch} {e : Env} {s : State} {m : MethodId} {args : Array Value} {below : List Frame} {meth : Method} {c : Code} {A : Nat → Prop} (g : Gm) (C : cX p s m args meth c A cX11_reset none 2 RX11 wq_X11_reset (gD g) vwCl (mty g) (mz g)) (rec : CS → Int32 → Option (CS)) (orec : CS → Int32 → Prop) (hrec : ∀ (st : CS) (x1 : Int32) (H : Heap) (locs : List Loc) (ls : Array Slot), cI (gD g) vwCl (mw g) A s st H locs → lv_has ls 2 [(0, .ref (gad g 0)), (1, .int x1)] → orec st x1 → ∀ (X : CS), some X = rec st x1 → W p l e rm_m_reset s m args below meth c H locs 0 0 (MQ below (cQv (gD g) vwCl (mty g) (mw g) A X) args s 0 0 A) (F0 m 49 ls [])) (st : CS) (x1 : Int32) (H : Heap) (locs : List Loc) (ls : Array Slot) (hI : cI (gD g) vwCl (mw g) A s st H locs) (hl : lv_has ls 2 [(0, .ref (gad g 0)), (1, .int x1)]) (hO : o_m_reset_b61 orec st x1) (X : CS) (hF : some X = m_reset_b61 rec st x1) : W p l e rm_m_reset s m args below meth c H locs 0 0 (MQ below (cQv (gD g) vwCl (mty g) (mw g) A X) args s 0 0 A) (F0 m 61 ls []) := by
  obtain ⟨hx, hb, hr, hml, hown, hts, hlocks, hK, hA, hZ, hzo⟩ := id C
  unfold m_reset_b61 at hF
  unfold o_m_reset_b61 at hO
  refine lv_aload_n hx hb dX11_reset_61 rfl (lv_at hl 0 rfl) ?_
  refine va_get (D := gD g) (ci := 11) (C := RX11) (T := TX11) (N := 50) (v := .ref (gad g 4)) hx hb hts (fun w h => List.mem_cons_of_mem _ (isX110 w h)) hown hK hI.1 0 rfl rfl 4 (by decide) (hts _ (List.mem_cons_of_mem _ mw188)) (fun _ h9 => h9) rfl dX11_reset_62 ?_
  refine lv_iload_n hx hb dX11_reset_65 rfl (lv_at hl 1 rfl) ?_
  refine lv_iconst (v := (0 : Int32)) hx hb dX11_reset_66 (by decide) ?_
  have hq_67_0 := hO.1
  have hO := hO.2
  refine va_iast (f := (gA st 3)) hx hb hK hI.1 hI.2.1 hI.2.2 4 3 rfl rfl hq_67_0 dX11_reset_67 (fun H locs hP hD hS => ?_)
  have hI : cI (gD g) vwCl (mw g) A s (sA st 3 (upd (gA st 3) x1.toNatClampNeg (0 : Int32))) H locs := ⟨hP, hD, hS⟩
  exact k_m_reset_b68 g C rec orec hrec (sA st 3 (upd (gA st 3) x1.toNatClampNeg (0 : Int32))) x1 H locs ls hI (lv_sub hl [0, 1] rfl) hO X hF
def m_reset_b49 : Nat → CS → Int32 → Option (CS)
  | 0, _, _ => none
  | n + 1, st, x1 => (if ((2 : Int32) ≤ x1) then (some (m_reset_b110t (sI st 1 (201326595 : Int32)) (0 : Int32))) else (m_reset_b61 (m_reset_b49 n) (sA st 2 (upd (gA st 2) x1.toNatClampNeg (0 : Int32))) x1))
def o_m_reset_b49 : Nat → CS → Int32 → Prop
  | 0, _, _ => True
  | n + 1, st, x1 => ((((2 : Int32) ≤ x1) → (o_m_reset_b110t (sI st 1 (201326595 : Int32)) (0 : Int32))) ∧ (¬ ((2 : Int32) ≤ x1) → (vp_in x1 2 ∧ (o_m_reset_b61 (o_m_reset_b49 n) (sA st 2 (upd (gA st 2) x1.toNatClampNeg (0 : Int32))) x1))))
set_option maxHeartbeats 4000000 in
set_option maxRecDepth 100000 in
theorem k_m_reset_b49 {p : Program} {l : Launch} {e : Env} {s : State} {m : MethodId} {args : Array Value} {below : List Frame} {meth : Method} {c : Code} {A : Nat → Prop} (g : Gm) (C : cX p s m args meth c A cX11_reset none 2 RX11 wq_X11_reset (gD g) vwCl (mty g) (mz g)) : ∀ (n : Nat) (st : CS) (x1 : Int32) (H : Heap) (locs : List Loc) (ls : Array Slot), cI (gD g) vwCl (mw g) A s st H locs → lv_has ls 2 [(0, .ref (gad g 0)), (1, .int x1)] → o_m_reset_b49 n st x1 → ∀ (X : CS), some X = m_reset_b49 n st x1 → W p l e rm_m_reset s m args below meth c H locs 0 0 (MQ below (cQv (gD g) vwCl (mty g) (mw g) A X) args s 0 0 A) (F0 m 49 ls []) := by
  obtain ⟨hx, hb, hr, hml, hown, hts, hlocks, hK, hA, hZ, hzo⟩ := id C
  intro n
  induction n with
  | zero => intro st x1 H locs ls hI hl hO X hF; exact absurd hF (by simp [m_reset_b49])
  | succ n ih =>
    intro st x1 H locs ls hI hl hO X hF
    rw [m_reset_b49] at hF
    rw [o_m_reset_b49] at hO
    refine lv_iload_n hx hb dX11_reset_49 rfl (lv_at hl 1 rfl) ?_
    refine lv_iconst (v := (2 : Int32)) hx hb dX11_reset_50 (by decide) ?_
    refine lv_icmp_ge (tgt := 102) hx hb dX11_reset_51 (by decide) (fun c_51 => ?_) (fun c_51 => ?_)
    · have hF := hF.trans (if_pos c_51)
      have hO := hO.1 c_51
      refine lv_aload_n hx hb dX11_reset_102 rfl (lv_at hl 0 rfl) ?_
      refine lv_ldc (v := (201326595 : Int32)) hx hb hown (hts _ (List.mem_cons_of_mem _ mw209)) dX11_reset_103 ?_
      refine va_put (D := gD g) (ci := 11) (C := RX11) (T := TX11) (N := 50) (v := .int (201326595 : Int32)) (ty := .int) hx hb hts (fun w h => List.mem_cons_of_mem _ (isX110 w h)) tyX11 tyX11_ok nmX11 hown hK hI.1 hI.2.1 hI.2.2 0 rfl rfl 5 (by decide) (hts _ (List.mem_cons_of_mem _ mw210)) (fun _ h9 => h9) rfl (by decide +kernel) rfl rfl (Nat.le_of_ble_eq_true rfl) dX11_reset_105 (fun H locs hP hD hS => ?_)
      have hI : cI (gD g) vwCl (mw g) A s (sI st 1 (201326595 : Int32)) H locs := ⟨hP, hD, hS⟩
      refine lv_iconst (v := (0 : Int32)) hx hb dX11_reset_108 (by decide) ?_
      refine lv_istore_n (lv' := [(1, .int (0 : Int32)), (0, .ref (gad g 0))]) hx hb dX11_reset_109 rfl hl (by decide) rfl (fun ls hl => ?_)
      have hF := Option.some.inj hF
      exact k_m_reset_b110t g C (sI st 1 (201326595 : Int32)) (0 : Int32) H locs ls hI (lv_sub hl [1, 0] rfl) hO X hF
    · have hF := hF.trans (if_neg c_51)
      have hO := hO.2 c_51
      refine lv_aload_n hx hb dX11_reset_54 rfl (lv_at hl 0 rfl) ?_
      refine va_get (D := gD g) (ci := 11) (C := RX11) (T := TX11) (N := 50) (v := .ref (gad g 3)) hx hb hts (fun w h => List.mem_cons_of_mem _ (isX110 w h)) hown hK hI.1 0 rfl rfl 3 (by decide) (hts _ (List.mem_cons_of_mem _ mw187)) (fun _ h9 => h9) rfl dX11_reset_55 ?_
      refine lv_iload_n hx hb dX11_reset_58 rfl (lv_at hl 1 rfl) ?_
      refine lv_iconst (v := (0 : Int32)) hx hb dX11_reset_59 (by decide) ?_
      have hq_60_0 := hO.1
      have hO := hO.2
      refine va_iast (f := (gA st 2)) hx hb hK hI.1 hI.2.1 hI.2.2 3 2 rfl rfl hq_60_0 dX11_reset_60 (fun H locs hP hD hS => ?_)
      have hI : cI (gD g) vwCl (mw g) A s (sA st 2 (upd (gA st 2) x1.toNatClampNeg (0 : Int32))) H locs := ⟨hP, hD, hS⟩
      exact k_m_reset_b61 g C (m_reset_b49 n) (o_m_reset_b49 n) ih (sA st 2 (upd (gA st 2) x1.toNatClampNeg (0 : Int32))) x1 H locs ls hI (lv_sub hl [0, 1] rfl) hO X hF
def m_reset_b49t (st : CS) (x1 : Int32) : CS := (m_reset_b49 (3) st x1).getD st
def o_m_reset_b49t (st : CS) (x1 : Int32) : Prop := o_m_reset_b49 (3) st x1 ∧ ∃ r, m_reset_b49 (3) st x1 = some r
set_option maxHeartbeats 4000000 in
set_option maxRecDepth 100000 in
theorem k_m_reset_b49t {p : Program} {l : Launch} {e : Env} {s : State} {m : MethodId} {args : Array Value} {below : List Frame} {meth : Method} {c : Code} {A : Nat → Prop} (g : Gm) (C : cX p s m args meth c A cX11_reset none 2 RX11 wq_X11_reset (gD g) vwCl (mty g) (mz g)) (st : CS) (x1 : Int32) (H : Heap) (locs : List Loc) (ls : Array Slot) (hI : cI (gD g) vwCl (mw g) A s st H locs) (hl : lv_has ls 2 [(0, .ref (gad g 0)), (1, .int x1)]) (hO : o_m_reset_b49t st x1) (X : CS) (hF : X = m_reset_b49t st x1) : W p l e rm_m_reset s m args below meth c H locs 0 0 (MQ below (cQv (gD g) vwCl (mty g) (mw g) A X) args s 0 0 A) (F0 m 49 ls []) := by
  refine k_m_reset_b49 g C (3) st x1 H locs ls hI hl hO.1 X ?_
  rw [hF]
  exact some_getD hO.2
def m_reset_b41 (rec : CS → Int32 → Option (CS)) (st : CS) (x1 : Int32) : Option (CS) := (rec st (x1 + (1 : Int32)))
def o_m_reset_b41 (orec : CS → Int32 → Prop) (st : CS) (x1 : Int32) : Prop := (orec st (x1 + (1 : Int32)))
set_option maxHeartbeats 4000000 in
set_option maxRecDepth 100000 in
theorem k_m_reset_b41 {p : Program} {l : Launch} {e : Env} {s : State} {m : MethodId} {args : Array Value} {below : List Frame} {meth : Method} {c : Code} {A : Nat → Prop} (g : Gm) (C : cX p s m args meth c A cX11_reset none 2 RX11 wq_X11_reset (gD g) vwCl (mty g) (mz g)) (rec : CS → Int32 → Option (CS)) (orec : CS → Int32 → Prop) (hrec : ∀ (st : CS) (x1 : Int32) (H : Heap) (locs : List Loc) (ls : Array Slot), cI (gD g) vwCl (mw g) A s st H locs → lv_has ls 2 [(0, .ref (gad g 0)), (1, .int x1)] → orec st x1 → ∀ (X : CS), some X = rec st x1 → W p l e rm_m_reset s m args below meth c H locs 0 0 (MQ below (cQv (gD g) vwCl (mty g) (mw g) A X) args s 0 0 A) (F0 m 28 ls [])) (st : CS) (x1 : Int32) (H : Heap) (locs : List Loc) (ls : Array Slot) (hI : cI (gD g) vwCl (mw g) A s st H locs) (hl : lv_has ls 2 [(0, .ref (gad g 0)), (1, .int x1)]) (hO : o_m_reset_b41 orec st x1) (X : CS) (hF : some X = m_reset_b41 rec st x1) : W p l e rm_m_reset s m args below meth c H locs 0 0 (MQ below (cQv (gD g) vwCl (mty g) (mw g) A X) args s 0 0 A) (F0 m 41 ls []) := by
  obtain ⟨hx, hb, hr, hml, hown, hts, hlocks, hK, hA, hZ, hzo⟩ := id C
  unfold m_reset_b41 at hF
  unfold o_m_reset_b41 at hO
  refine lv_iinc (v := (x1 + (1 : Int32))) (lv' := [(1, .int (x1 + (1 : Int32))), (0, .ref (gad g 0))]) hx hb dX11_reset_41 hl (k := 1) rfl rfl (by decide) rfl (fun ls hl => ?_)
  refine lv_goto (tgt := 28) hx hb dX11_reset_44 (by decide) ?_
  exact hrec st (x1 + (1 : Int32)) H locs ls hI (lv_sub hl [1, 0] rfl) hO X hF
def m_reset_b28 : Nat → CS → Int32 → Option (CS)
  | 0, _, _ => none
  | n + 1, st, x1 => (if ((7 : Int32) ≤ x1) then (some (m_reset_b49t st (0 : Int32))) else (m_reset_b41 (m_reset_b28 n) (sA st 1 (upd (gA st 1) x1.toNatClampNeg (0 : Int32))) x1))
def o_m_reset_b28 : Nat → CS → Int32 → Prop
  | 0, _, _ => True
  | n + 1, st, x1 => ((((7 : Int32) ≤ x1) → (o_m_reset_b49t st (0 : Int32))) ∧ (¬ ((7 : Int32) ≤ x1) → (vp_in x1 7 ∧ (o_m_reset_b41 (o_m_reset_b28 n) (sA st 1 (upd (gA st 1) x1.toNatClampNeg (0 : Int32))) x1))))
set_option maxHeartbeats 4000000 in
set_option maxRecDepth 100000 in
theorem k_m_reset_b28 {p : Program} {l : Launch} {e : Env} {s : State} {m : MethodId} {args : Array Value} {below : List Frame} {meth : Method} {c : Code} {A : Nat → Prop} (g : Gm) (C : cX p s m args meth c A cX11_reset none 2 RX11 wq_X11_reset (gD g) vwCl (mty g) (mz g)) : ∀ (n : Nat) (st : CS) (x1 : Int32) (H : Heap) (locs : List Loc) (ls : Array Slot), cI (gD g) vwCl (mw g) A s st H locs → lv_has ls 2 [(0, .ref (gad g 0)), (1, .int x1)] → o_m_reset_b28 n st x1 → ∀ (X : CS), some X = m_reset_b28 n st x1 → W p l e rm_m_reset s m args below meth c H locs 0 0 (MQ below (cQv (gD g) vwCl (mty g) (mw g) A X) args s 0 0 A) (F0 m 28 ls []) := by
  obtain ⟨hx, hb, hr, hml, hown, hts, hlocks, hK, hA, hZ, hzo⟩ := id C
  intro n
  induction n with
  | zero => intro st x1 H locs ls hI hl hO X hF; exact absurd hF (by simp [m_reset_b28])
  | succ n ih =>
    intro st x1 H locs ls hI hl hO X hF
    rw [m_reset_b28] at hF
    rw [o_m_reset_b28] at hO
    refine lv_iload_n hx hb dX11_reset_28 rfl (lv_at hl 1 rfl) ?_
    refine lv_bipush (v := (7 : Int32)) hx hb dX11_reset_29 (by decide) ?_
    refine lv_icmp_ge (tgt := 47) hx hb dX11_reset_31 (by decide) (fun c_31 => ?_) (fun c_31 => ?_)
    · have hF := hF.trans (if_pos c_31)
      have hO := hO.1 c_31
      refine lv_iconst (v := (0 : Int32)) hx hb dX11_reset_47 (by decide) ?_
      refine lv_istore_n (lv' := [(1, .int (0 : Int32)), (0, .ref (gad g 0))]) hx hb dX11_reset_48 rfl hl (by decide) rfl (fun ls hl => ?_)
      have hF := Option.some.inj hF
      exact k_m_reset_b49t g C st (0 : Int32) H locs ls hI (lv_sub hl [1, 0] rfl) hO X hF
    · have hF := hF.trans (if_neg c_31)
      have hO := hO.2 c_31
      refine lv_aload_n hx hb dX11_reset_34 rfl (lv_at hl 0 rfl) ?_
      refine va_get (D := gD g) (ci := 11) (C := RX11) (T := TX11) (N := 50) (v := .ref (gad g 2)) hx hb hts (fun w h => List.mem_cons_of_mem _ (isX110 w h)) hown hK hI.1 0 rfl rfl 2 (by decide) (hts _ (List.mem_cons_of_mem _ mw186)) (fun _ h9 => h9) rfl dX11_reset_35 ?_
      refine lv_iload_n hx hb dX11_reset_38 rfl (lv_at hl 1 rfl) ?_
      refine lv_iconst (v := (0 : Int32)) hx hb dX11_reset_39 (by decide) ?_
      have hq_40_0 := hO.1
      have hO := hO.2
      refine va_iast (f := (gA st 1)) hx hb hK hI.1 hI.2.1 hI.2.2 2 1 rfl rfl hq_40_0 dX11_reset_40 (fun H locs hP hD hS => ?_)
      have hI : cI (gD g) vwCl (mw g) A s (sA st 1 (upd (gA st 1) x1.toNatClampNeg (0 : Int32))) H locs := ⟨hP, hD, hS⟩
      exact k_m_reset_b41 g C (m_reset_b28 n) (o_m_reset_b28 n) ih (sA st 1 (upd (gA st 1) x1.toNatClampNeg (0 : Int32))) x1 H locs ls hI (lv_sub hl [0, 1] rfl) hO X hF
def m_reset_b28t (st : CS) (x1 : Int32) : CS := (m_reset_b28 (8) st x1).getD st
def o_m_reset_b28t (st : CS) (x1 : Int32) : Prop := o_m_reset_b28 (8) st x1 ∧ ∃ r, m_reset_b28 (8) st x1 = some r
set_option maxHeartbeats 4000000 in
set_option maxRecDepth 100000 in
theorem k_m_reset_b28t {p : Program} {l : Launch} {e : Env} {s : State} {m : MethodId} {args : Array Value} {below : List Frame} {meth : Method} {c : Code} {A : Nat → Prop} (g : Gm) (C : cX p s m args meth c A cX11_reset none 2 RX11 wq_X11_reset (gD g) vwCl (mty g) (mz g)) (st : CS) (x1 : Int32) (H : Heap) (locs : List Loc) (ls : Array Slot) (hI : cI (gD g) vwCl (mw g) A s st H locs) (hl : lv_has ls 2 [(0, .ref (gad g 0)), (1, .int x1)]) (hO : o_m_reset_b28t st x1) (X : CS) (hF : X = m_reset_b28t st x1) : W p l e rm_m_reset s m args below meth c H locs 0 0 (MQ below (cQv (gD g) vwCl (mty g) (mw g) A X) args s 0 0 A) (F0 m 28 ls []) := by
  refine k_m_reset_b28 g C (8) st x1 H locs ls hI hl hO.1 X ?_
  rw [hF]
  exact some_getD hO.2
def m_reset_b20 (rec : CS → Int32 → Option (CS)) (st : CS) (x1 : Int32) : Option (CS) := (rec st (x1 + (1 : Int32)))
def o_m_reset_b20 (orec : CS → Int32 → Prop) (st : CS) (x1 : Int32) : Prop := (orec st (x1 + (1 : Int32)))
set_option maxHeartbeats 4000000 in
set_option maxRecDepth 100000 in
theorem k_m_reset_b20 {p : Program} {l : Launch} {e : Env} {s : State} {m : MethodId} {args : Array Value} {below : List Frame} {meth : Method} {c : Code} {A : Nat → Prop} (g : Gm) (C : cX p s m args meth c A cX11_reset none 2 RX11 wq_X11_reset (gD g) vwCl (mty g) (mz g)) (rec : CS → Int32 → Option (CS)) (orec : CS → Int32 → Prop) (hrec : ∀ (st : CS) (x1 : Int32) (H : Heap) (locs : List Loc) (ls : Array Slot), cI (gD g) vwCl (mw g) A s st H locs → lv_has ls 2 [(0, .ref (gad g 0)), (1, .int x1)] → orec st x1 → ∀ (X : CS), some X = rec st x1 → W p l e rm_m_reset s m args below meth c H locs 0 0 (MQ below (cQv (gD g) vwCl (mty g) (mw g) A X) args s 0 0 A) (F0 m 7 ls [])) (st : CS) (x1 : Int32) (H : Heap) (locs : List Loc) (ls : Array Slot) (hI : cI (gD g) vwCl (mw g) A s st H locs) (hl : lv_has ls 2 [(0, .ref (gad g 0)), (1, .int x1)]) (hO : o_m_reset_b20 orec st x1) (X : CS) (hF : some X = m_reset_b20 rec st x1) : W p l e rm_m_reset s m args below meth c H locs 0 0 (MQ below (cQv (gD g) vwCl (mty g) (mw g) A X) args s 0 0 A) (F0 m 20 ls []) := by
  obtain ⟨hx, hb, hr, hml, hown, hts, hlocks, hK, hA, hZ, hzo⟩ := id C
  unfold m_reset_b20 at hF
  unfold o_m_reset_b20 at hO
  refine lv_iinc (v := (x1 + (1 : Int32))) (lv' := [(1, .int (x1 + (1 : Int32))), (0, .ref (gad g 0))]) hx hb dX11_reset_20 hl (k := 1) rfl rfl (by decide) rfl (fun ls hl => ?_)
  refine lv_goto (tgt := 7) hx hb dX11_reset_23 (by decide) ?_
  exact hrec st (x1 + (1 : Int32)) H locs ls hI (lv_sub hl [1, 0] rfl) hO X hF
def m_reset_b7 : Nat → CS → Int32 → Option (CS)
  | 0, _, _ => none
  | n + 1, st, x1 => (if ((15 : Int32) ≤ x1) then (some (m_reset_b28t st (0 : Int32))) else (m_reset_b20 (m_reset_b7 n) (sA st 0 (upd (gA st 0) x1.toNatClampNeg (0 : Int32))) x1))
def o_m_reset_b7 : Nat → CS → Int32 → Prop
  | 0, _, _ => True
  | n + 1, st, x1 => ((((15 : Int32) ≤ x1) → (o_m_reset_b28t st (0 : Int32))) ∧ (¬ ((15 : Int32) ≤ x1) → (vp_in x1 15 ∧ (o_m_reset_b20 (o_m_reset_b7 n) (sA st 0 (upd (gA st 0) x1.toNatClampNeg (0 : Int32))) x1))))
set_option maxHeartbeats 4000000 in
set_option maxRecDepth 100000 in
theorem k_m_reset_b7 {p : Program} {l : Launch} {e : Env} {s : State} {m : MethodId} {args : Array Value} {below : List Frame} {meth : Method} {c : Code} {A : Nat → Prop} (g : Gm) (C : cX p s m args meth c A cX11_reset none 2 RX11 wq_X11_reset (gD g) vwCl (mty g) (mz g)) : ∀ (n : Nat) (st : CS) (x1 : Int32) (H : Heap) (locs : List Loc) (ls : Array Slot), cI (gD g) vwCl (mw g) A s st H locs → lv_has ls 2 [(0, .ref (gad g 0)), (1, .int x1)] → o_m_reset_b7 n st x1 → ∀ (X : CS), some X = m_reset_b7 n st x1 → W p l e rm_m_reset s m args below meth c H locs 0 0 (MQ below (cQv (gD g) vwCl (mty g) (mw g) A X) args s 0 0 A) (F0 m 7 ls []) := by
  obtain ⟨hx, hb, hr, hml, hown, hts, hlocks, hK, hA, hZ, hzo⟩ := id C
  intro n
  induction n with
  | zero => intro st x1 H locs ls hI hl hO X hF; exact absurd hF (by simp [m_reset_b7])
  | succ n ih =>
    intro st x1 H locs ls hI hl hO X hF
    rw [m_reset_b7] at hF
    rw [o_m_reset_b7] at hO
    refine lv_iload_n hx hb dX11_reset_7 rfl (lv_at hl 1 rfl) ?_
    refine lv_bipush (v := (15 : Int32)) hx hb dX11_reset_8 (by decide) ?_
    refine lv_icmp_ge (tgt := 26) hx hb dX11_reset_10 (by decide) (fun c_10 => ?_) (fun c_10 => ?_)
    · have hF := hF.trans (if_pos c_10)
      have hO := hO.1 c_10
      refine lv_iconst (v := (0 : Int32)) hx hb dX11_reset_26 (by decide) ?_
      refine lv_istore_n (lv' := [(1, .int (0 : Int32)), (0, .ref (gad g 0))]) hx hb dX11_reset_27 rfl hl (by decide) rfl (fun ls hl => ?_)
      have hF := Option.some.inj hF
      exact k_m_reset_b28t g C st (0 : Int32) H locs ls hI (lv_sub hl [1, 0] rfl) hO X hF
    · have hF := hF.trans (if_neg c_10)
      have hO := hO.2 c_10
      refine lv_aload_n hx hb dX11_reset_13 rfl (lv_at hl 0 rfl) ?_
      refine va_get (D := gD g) (ci := 11) (C := RX11) (T := TX11) (N := 50) (v := .ref (gad g 1)) hx hb hts (fun w h => List.mem_cons_of_mem _ (isX110 w h)) hown hK hI.1 0 rfl rfl 1 (by decide) (hts _ (List.mem_cons_of_mem _ mw185)) (fun _ h9 => h9) rfl dX11_reset_14 ?_
      refine lv_iload_n hx hb dX11_reset_17 rfl (lv_at hl 1 rfl) ?_
      refine lv_iconst (v := (0 : Int32)) hx hb dX11_reset_18 (by decide) ?_
      have hq_19_0 := hO.1
      have hO := hO.2
      refine va_iast (f := (gA st 0)) hx hb hK hI.1 hI.2.1 hI.2.2 1 0 rfl rfl hq_19_0 dX11_reset_19 (fun H locs hP hD hS => ?_)
      have hI : cI (gD g) vwCl (mw g) A s (sA st 0 (upd (gA st 0) x1.toNatClampNeg (0 : Int32))) H locs := ⟨hP, hD, hS⟩
      exact k_m_reset_b20 g C (m_reset_b7 n) (o_m_reset_b7 n) ih (sA st 0 (upd (gA st 0) x1.toNatClampNeg (0 : Int32))) x1 H locs ls hI (lv_sub hl [0, 1] rfl) hO X hF
def m_reset_b7t (st : CS) (x1 : Int32) : CS := (m_reset_b7 (16) st x1).getD st
def o_m_reset_b7t (st : CS) (x1 : Int32) : Prop := o_m_reset_b7 (16) st x1 ∧ ∃ r, m_reset_b7 (16) st x1 = some r
set_option maxHeartbeats 4000000 in
set_option maxRecDepth 100000 in
theorem k_m_reset_b7t {p : Program} {l : Launch} {e : Env} {s : State} {m : MethodId} {args : Array Value} {below : List Frame} {meth : Method} {c : Code} {A : Nat → Prop} (g : Gm) (C : cX p s m args meth c A cX11_reset none 2 RX11 wq_X11_reset (gD g) vwCl (mty g) (mz g)) (st : CS) (x1 : Int32) (H : Heap) (locs : List Loc) (ls : Array Slot) (hI : cI (gD g) vwCl (mw g) A s st H locs) (hl : lv_has ls 2 [(0, .ref (gad g 0)), (1, .int x1)]) (hO : o_m_reset_b7t st x1) (X : CS) (hF : X = m_reset_b7t st x1) : W p l e rm_m_reset s m args below meth c H locs 0 0 (MQ below (cQv (gD g) vwCl (mty g) (mw g) A X) args s 0 0 A) (F0 m 7 ls []) := by
  refine k_m_reset_b7 g C (16) st x1 H locs ls hI hl hO.1 X ?_
  rw [hF]
  exact some_getD hO.2
def m_reset (st : CS) : CS := (m_reset_b7t (sI st 0 (0 : Int32)) (0 : Int32))
def o_m_reset (st : CS) : Prop := (o_m_reset_b7t (sI st 0 (0 : Int32)) (0 : Int32))
set_option maxHeartbeats 4000000 in
set_option maxRecDepth 100000 in
theorem k_m_reset {p : Program} {l : Launch} {e : Env} {s : State} {m : MethodId} {args : Array Value} {below : List Frame} {meth : Method} {c : Code} {A : Nat → Prop} (g : Gm) (C : cX p s m args meth c A cX11_reset none 2 RX11 wq_X11_reset (gD g) vwCl (mty g) (mz g)) (st : CS) (H : Heap) (locs : List Loc) (ls : Array Slot) (hI : cI (gD g) vwCl (mw g) A s st H locs) (hl : lv_has ls 2 [(0, .ref (gad g 0))]) (hO : o_m_reset st) (X : CS) (hF : X = m_reset st) : W p l e rm_m_reset s m args below meth c H locs 0 0 (MQ below (cQv (gD g) vwCl (mty g) (mw g) A X) args s 0 0 A) (F0 m 0 ls []) := by
  obtain ⟨hx, hb, hr, hml, hown, hts, hlocks, hK, hA, hZ, hzo⟩ := id C
  unfold m_reset at hF
  unfold o_m_reset at hO
  refine lv_aload_n hx hb dX11_reset_0 rfl (lv_at hl 0 rfl) ?_
  refine lv_iconst (v := (0 : Int32)) hx hb dX11_reset_1 (by decide) ?_
  refine va_put (D := gD g) (ci := 11) (C := RX11) (T := TX11) (N := 50) (v := .int (0 : Int32)) (ty := .int) hx hb hts (fun w h => List.mem_cons_of_mem _ (isX110 w h)) tyX11 tyX11_ok nmX11 hown hK hI.1 hI.2.1 hI.2.2 0 rfl rfl 0 (by decide) (hts _ (List.mem_cons_of_mem _ mw208)) (fun _ h9 => h9) rfl (by decide +kernel) rfl rfl (Nat.le_of_ble_eq_true rfl) dX11_reset_2 (fun H locs hP hD hS => ?_)
  have hI : cI (gD g) vwCl (mw g) A s (sI st 0 (0 : Int32)) H locs := ⟨hP, hD, hS⟩
  refine lv_iconst (v := (0 : Int32)) hx hb dX11_reset_5 (by decide) ?_
  refine lv_istore_n (lv' := [(1, .int (0 : Int32)), (0, .ref (gad g 0))]) hx hb dX11_reset_6 rfl hl (by decide) rfl (fun ls hl => ?_)
  exact k_m_reset_b7t g C (sI st 0 (0 : Int32)) (0 : Int32) H locs ls hI (lv_sub hl [1, 0] rfl) hO X hF
set_option maxHeartbeats 4000000 in
set_option maxRecDepth 100000 in
theorem c_m_reset (l : Launch) (g : Gm) (st : CS) (hO : o_m_reset st) : Mv l yX11_reset wq_X11_reset rm_m_reset (gD g) vwCl (mty g) (mw g) (mz g) [.ref (gad g 0)] st (m_reset st) := by
  intro sz
  refine Met.ofW (cc := cX11_reset) (maxL := 2) (ret := none) (by decide) rfl ?_
  intro p e s m args below meth c s₁ B hml hv
  obtain ⟨rfl, hsz, hP, hK, hD0, hZ⟩ := hv
  subst hsz
  have hl := lv_entry ([.ref (gad g 0)]) (n := 2) (Nat.le_of_ble_eq_true rfl)
  rw [lg_entry_eq]
  generalize (lg_sl ([.ref (gad g 0)]) ++ List.replicate (2 - (lg_sl ([.ref (gad g 0)])).length) Slot.unset).toArray = ls at hl ⊢
  exact k_m_reset g ⟨B.exec, B.bytes, B.returns, hml, findClass_of_methodNamed B.named, atoms_spec (ws := wq_X11_reset) B.pre, B.notSynchronized, hK, fun q h => Or.inr h, hZ, mz_ok g⟩ st  _ _ ls ⟨hP, hD0.self, va_S.rf⟩ hl hO _ rfl
abbrev wq_X11_mode : List Cond := .code yX11_mode cX11_mode 1 (some .int) :: wAll
theorem yd_yX11_mode : yX11_mode.cls = RX11 ∧ yX11_mode.cls ≠ "java/lang/invoke/MethodHandle" ∧ yX11_mode.cls ≠ "java/lang/invoke/VarHandle" ∧ (parseMethodDescriptor yX11_mode.desc).map (fun d => d.parameters.length) = some 0 := by decide +kernel
abbrev rm_m_mode : Room := { frames := 0, cells := 0, slots := 0, locals := 0 }
def m_mode (st : CS) : Int32 := ((gI st 1) &&& (3 : Int32))
set_option maxHeartbeats 4000000 in
set_option maxRecDepth 100000 in
theorem k_m_mode {p : Program} {l : Launch} {e : Env} {s : State} {m : MethodId} {args : Array Value} {below : List Frame} {meth : Method} {c : Code} {A : Nat → Prop} (g : Gm) (C : cX p s m args meth c A cX11_mode (some .int) 1 RX11 wq_X11_mode (gD g) vwCl (mty g) (mz g)) (st : CS) (H : Heap) (locs : List Loc) (ls : Array Slot) (hI : cI (gD g) vwCl (mw g) A s st H locs) (hl : lv_has ls 1 [(0, .ref (gad g 0))]) (X : Int32) (hF : X = m_mode st) : W p l e rm_m_mode s m args below meth c H locs 0 0 (MQ below (cQi (gD g) vwCl (mty g) (mw g) A st X) args s 0 0 A) (F0 m 0 ls []) := by
  obtain ⟨hx, hb, hr, hml, hown, hts, hlocks, hK, hA, hZ, hzo⟩ := id C
  unfold m_mode at hF
  refine lv_aload_n hx hb dX11_mode_0 rfl (lv_at hl 0 rfl) ?_
  refine va_get (D := gD g) (ci := 11) (C := RX11) (T := TX11) (N := 50) (v := .int (gI st 1)) hx hb hts (fun w h => List.mem_cons_of_mem _ (isX110 w h)) hown hK hI.1 0 rfl rfl 5 (by decide) (hts _ (List.mem_cons_of_mem _ mw210)) (fun _ h9 => h9) rfl dX11_mode_1 ?_
  refine lv_iconst (v := (3 : Int32)) hx hb dX11_mode_4 (by decide) ?_
  refine lv_iand hx hb dX11_mode_5 ?_
  exact cx_iret C hI rfl hF dX11_mode_6
set_option maxHeartbeats 4000000 in
set_option maxRecDepth 100000 in
theorem c_m_mode (l : Launch) (g : Gm) (st : CS) : Mi l yX11_mode wq_X11_mode rm_m_mode (gD g) vwCl (mty g) (mw g) (mz g) [.ref (gad g 0)] st st (m_mode st) := by
  intro sz
  refine Met.ofW (cc := cX11_mode) (maxL := 1) (ret := (some .int)) (by decide) rfl ?_
  intro p e s m args below meth c s₁ B hml hv
  obtain ⟨rfl, hsz, hP, hK, hD0, hZ⟩ := hv
  subst hsz
  have hl := lv_entry ([.ref (gad g 0)]) (n := 1) (Nat.le_of_ble_eq_true rfl)
  rw [lg_entry_eq]
  generalize (lg_sl ([.ref (gad g 0)]) ++ List.replicate (1 - (lg_sl ([.ref (gad g 0)])).length) Slot.unset).toArray = ls at hl ⊢
  exact k_m_mode g ⟨B.exec, B.bytes, B.returns, hml, findClass_of_methodNamed B.named, atoms_spec (ws := wq_X11_mode) B.pre, B.notSynchronized, hK, fun q h => Or.inr h, hZ, mz_ok g⟩ st  _ _ ls ⟨hP, hD0.self, va_S.rf⟩ hl _ rfl
abbrev wq_X11_is : List Cond := .code yX11_is cX11_is 2 (some .boolean) :: wAll
theorem yd_yX11_is : yX11_is.cls = RX11 ∧ yX11_is.cls ≠ "java/lang/invoke/MethodHandle" ∧ yX11_is.cls ≠ "java/lang/invoke/VarHandle" ∧ (parseMethodDescriptor yX11_is.desc).map (fun d => d.parameters.length) = some 1 := by decide +kernel
abbrev rm_m_is : Room := { frames := 0, cells := 0, slots := 0, locals := 0 }
def m_is (st : CS) (x1 : Int32) : Int32 := (if ((((gI st 1) >>> (x1 &&& 31)) &&& (1 : Int32)) = (1 : Int32)) then (1 : Int32) else (0 : Int32))
set_option maxHeartbeats 4000000 in
set_option maxRecDepth 100000 in
theorem k_m_is {p : Program} {l : Launch} {e : Env} {s : State} {m : MethodId} {args : Array Value} {below : List Frame} {meth : Method} {c : Code} {A : Nat → Prop} (g : Gm) (C : cX p s m args meth c A cX11_is (some .boolean) 2 RX11 wq_X11_is (gD g) vwCl (mty g) (mz g)) (st : CS) (x1 : Int32) (H : Heap) (locs : List Loc) (ls : Array Slot) (hI : cI (gD g) vwCl (mw g) A s st H locs) (hl : lv_has ls 2 [(0, .ref (gad g 0)), (1, .int x1)]) (X : Int32) (hF : X = m_is st x1) : W p l e rm_m_is s m args below meth c H locs 0 0 (MQ below (cQi (gD g) vwCl (mty g) (mw g) A st X) args s 0 0 A) (F0 m 0 ls []) := by
  obtain ⟨hx, hb, hr, hml, hown, hts, hlocks, hK, hA, hZ, hzo⟩ := id C
  unfold m_is at hF
  refine lv_aload_n hx hb dX11_is_0 rfl (lv_at hl 0 rfl) ?_
  refine va_get (D := gD g) (ci := 11) (C := RX11) (T := TX11) (N := 50) (v := .int (gI st 1)) hx hb hts (fun w h => List.mem_cons_of_mem _ (isX110 w h)) hown hK hI.1 0 rfl rfl 5 (by decide) (hts _ (List.mem_cons_of_mem _ mw210)) (fun _ h9 => h9) rfl dX11_is_1 ?_
  refine lv_iload_n hx hb dX11_is_4 rfl (lv_at hl 1 rfl) ?_
  refine lv_ishr hx hb dX11_is_5 ?_
  refine lv_iconst (v := (1 : Int32)) hx hb dX11_is_6 (by decide) ?_
  refine lv_iand hx hb dX11_is_7 ?_
  refine lv_iconst (v := (1 : Int32)) hx hb dX11_is_8 (by decide) ?_
  refine lv_icmp_ne (tgt := 16) hx hb dX11_is_9 (by decide) (fun c_9 => ?_) (fun c_9 => ?_)
  · have hF := hF.trans (if_neg c_9)
    refine lv_iconst (v := (0 : Int32)) hx hb dX11_is_16 (by decide) ?_
    exact cx_zret C hI rfl hF rfl dX11_is_17
  · have hF := hF.trans (if_pos c_9)
    refine lv_iconst (v := (1 : Int32)) hx hb dX11_is_12 (by decide) ?_
    refine lv_goto (tgt := 17) hx hb dX11_is_13 (by decide) ?_
    exact cx_zret C hI rfl hF rfl dX11_is_17
set_option maxHeartbeats 4000000 in
set_option maxRecDepth 100000 in
theorem c_m_is (l : Launch) (g : Gm) (st : CS) (x1 : Int32) : Mi l yX11_is wq_X11_is rm_m_is (gD g) vwCl (mty g) (mw g) (mz g) [.ref (gad g 0), .int x1] st st (m_is st x1) := by
  intro sz
  refine Met.ofW (cc := cX11_is) (maxL := 2) (ret := (some .boolean)) (by decide) rfl ?_
  intro p e s m args below meth c s₁ B hml hv
  obtain ⟨rfl, hsz, hP, hK, hD0, hZ⟩ := hv
  subst hsz
  have hl := lv_entry ([.ref (gad g 0), .int x1]) (n := 2) (Nat.le_of_ble_eq_true rfl)
  rw [lg_entry_eq]
  generalize (lg_sl ([.ref (gad g 0), .int x1]) ++ List.replicate (2 - (lg_sl ([.ref (gad g 0), .int x1])).length) Slot.unset).toArray = ls at hl ⊢
  exact k_m_is g ⟨B.exec, B.bytes, B.returns, hml, findClass_of_methodNamed B.named, atoms_spec (ws := wq_X11_is) B.pre, B.notSynchronized, hK, fun q h => Or.inr h, hZ, mz_ok g⟩ st x1 _ _ ls ⟨hP, hD0.self, va_S.rf⟩ hl _ rfl
abbrev wq_X11_set : List Cond := .code yX11_set cX11_set 3 none :: wAll
theorem yd_yX11_set : yX11_set.cls = RX11 ∧ yX11_set.cls ≠ "java/lang/invoke/MethodHandle" ∧ yX11_set.cls ≠ "java/lang/invoke/VarHandle" ∧ (parseMethodDescriptor yX11_set.desc).map (fun d => d.parameters.length) = some 2 := by decide +kernel
abbrev rm_m_set : Room := { frames := 0, cells := 0, slots := 0, locals := 0 }
def m_set_b22 (st : CS) (y1 : Int32) (y0 : Int32) : CS := (sI st 1 (y1 ||| y0))
set_option maxHeartbeats 4000000 in
set_option maxRecDepth 100000 in
theorem k_m_set_b22 {p : Program} {l : Launch} {e : Env} {s : State} {m : MethodId} {args : Array Value} {below : List Frame} {meth : Method} {c : Code} {A : Nat → Prop} (g : Gm) (C : cX p s m args meth c A cX11_set none 3 RX11 wq_X11_set (gD g) vwCl (mty g) (mz g)) (st : CS) (y1 : Int32) (y0 : Int32) (H : Heap) (locs : List Loc) (ls : Array Slot) (hI : cI (gD g) vwCl (mw g) A s st H locs) (hl : lv_has ls 3 [(0, .ref (gad g 0))]) (X : CS) (hF : X = m_set_b22 st y1 y0) : W p l e rm_m_set s m args below meth c H locs 0 0 (MQ below (cQv (gD g) vwCl (mty g) (mw g) A X) args s 0 0 A) (F0 m 22 ls [.int y0, .int y1, .ref (gad g 0)]) := by
  obtain ⟨hx, hb, hr, hml, hown, hts, hlocks, hK, hA, hZ, hzo⟩ := id C
  unfold m_set_b22 at hF
  refine lv_ior hx hb dX11_set_22 ?_
  refine va_put (D := gD g) (ci := 11) (C := RX11) (T := TX11) (N := 50) (v := .int (y1 ||| y0)) (ty := .int) hx hb hts (fun w h => List.mem_cons_of_mem _ (isX110 w h)) tyX11 tyX11_ok nmX11 hown hK hI.1 hI.2.1 hI.2.2 0 rfl rfl 5 (by decide) (hts _ (List.mem_cons_of_mem _ mw210)) (fun _ h9 => h9) rfl (by decide +kernel) rfl rfl (Nat.le_of_ble_eq_true rfl) dX11_set_23 (fun H locs hP hD hS => ?_)
  have hI : cI (gD g) vwCl (mw g) A s (sI st 1 (y1 ||| y0)) H locs := ⟨hP, hD, hS⟩
  exact cx_vret C hI hF dX11_set_26
def m_set (st : CS) (x1 : Int32) (x2 : Int32) : CS := (if (x2 = 0) then (m_set_b22 st ((gI st 1) &&& (((1 : Int32) <<< (x1 &&& 31)) ^^^ (-1 : Int32))) (0 : Int32)) else (m_set_b22 st ((gI st 1) &&& (((1 : Int32) <<< (x1 &&& 31)) ^^^ (-1 : Int32))) ((1 : Int32) <<< (x1 &&& 31))))
set_option maxHeartbeats 4000000 in
set_option maxRecDepth 100000 in
theorem k_m_set {p : Program} {l : Launch} {e : Env} {s : State} {m : MethodId} {args : Array Value} {below : List Frame} {meth : Method} {c : Code} {A : Nat → Prop} (g : Gm) (C : cX p s m args meth c A cX11_set none 3 RX11 wq_X11_set (gD g) vwCl (mty g) (mz g)) (st : CS) (x1 : Int32) (x2 : Int32) (H : Heap) (locs : List Loc) (ls : Array Slot) (hI : cI (gD g) vwCl (mw g) A s st H locs) (hl : lv_has ls 3 [(0, .ref (gad g 0)), (1, .int x1), (2, .int x2)]) (X : CS) (hF : X = m_set st x1 x2) : W p l e rm_m_set s m args below meth c H locs 0 0 (MQ below (cQv (gD g) vwCl (mty g) (mw g) A X) args s 0 0 A) (F0 m 0 ls []) := by
  obtain ⟨hx, hb, hr, hml, hown, hts, hlocks, hK, hA, hZ, hzo⟩ := id C
  unfold m_set at hF
  refine lv_aload_n hx hb dX11_set_0 rfl (lv_at hl 0 rfl) ?_
  refine lv_aload_n hx hb dX11_set_1 rfl (lv_at hl 0 rfl) ?_
  refine va_get (D := gD g) (ci := 11) (C := RX11) (T := TX11) (N := 50) (v := .int (gI st 1)) hx hb hts (fun w h => List.mem_cons_of_mem _ (isX110 w h)) hown hK hI.1 0 rfl rfl 5 (by decide) (hts _ (List.mem_cons_of_mem _ mw210)) (fun _ h9 => h9) rfl dX11_set_2 ?_
  refine lv_iconst (v := (1 : Int32)) hx hb dX11_set_5 (by decide) ?_
  refine lv_iload_n hx hb dX11_set_6 rfl (lv_at hl 1 rfl) ?_
  refine lv_ishl hx hb dX11_set_7 ?_
  refine lv_iconst (v := (-1 : Int32)) hx hb dX11_set_8 (by decide) ?_
  refine lv_ixor hx hb dX11_set_9 ?_
  refine lv_iand hx hb dX11_set_10 ?_
  refine lv_iload_n hx hb dX11_set_11 rfl (lv_at hl 2 rfl) ?_
  refine lv_if_eq (tgt := 21) hx hb dX11_set_12 (by decide) (fun c_12 => ?_) (fun c_12 => ?_)
  · have hF := hF.trans (if_pos c_12)
    refine lv_iconst (v := (0 : Int32)) hx hb dX11_set_21 (by decide) ?_
    exact k_m_set_b22 g C st ((gI st 1) &&& (((1 : Int32) <<< (x1 &&& 31)) ^^^ (-1 : Int32))) (0 : Int32) H locs ls hI (lv_sub hl [0] rfl) X hF
  · have hF := hF.trans (if_neg c_12)
    refine lv_iconst (v := (1 : Int32)) hx hb dX11_set_15 (by decide) ?_
    refine lv_iload_n hx hb dX11_set_16 rfl (lv_at hl 1 rfl) ?_
    refine lv_ishl hx hb dX11_set_17 ?_
    refine lv_goto (tgt := 22) hx hb dX11_set_18 (by decide) ?_
    exact k_m_set_b22 g C st ((gI st 1) &&& (((1 : Int32) <<< (x1 &&& 31)) ^^^ (-1 : Int32))) ((1 : Int32) <<< (x1 &&& 31)) H locs ls hI (lv_sub hl [0] rfl) X hF
set_option maxHeartbeats 4000000 in
set_option maxRecDepth 100000 in
theorem c_m_set (l : Launch) (g : Gm) (st : CS) (x1 : Int32) (x2 : Int32) : Mv l yX11_set wq_X11_set rm_m_set (gD g) vwCl (mty g) (mw g) (mz g) [.ref (gad g 0), .int x1, .int x2] st (m_set st x1 x2) := by
  intro sz
  refine Met.ofW (cc := cX11_set) (maxL := 3) (ret := none) (by decide) rfl ?_
  intro p e s m args below meth c s₁ B hml hv
  obtain ⟨rfl, hsz, hP, hK, hD0, hZ⟩ := hv
  subst hsz
  have hl := lv_entry ([.ref (gad g 0), .int x1, .int x2]) (n := 3) (Nat.le_of_ble_eq_true rfl)
  rw [lg_entry_eq]
  generalize (lg_sl ([.ref (gad g 0), .int x1, .int x2]) ++ List.replicate (3 - (lg_sl ([.ref (gad g 0), .int x1, .int x2])).length) Slot.unset).toArray = ls at hl ⊢
  exact k_m_set g ⟨B.exec, B.bytes, B.returns, hml, findClass_of_methodNamed B.named, atoms_spec (ws := wq_X11_set) B.pre, B.notSynchronized, hK, fun q h => Or.inr h, hZ, mz_ok g⟩ st x1 x2 _ _ ls ⟨hP, hD0.self, va_S.rf⟩ hl _ rfl
abbrev wq_X11_isOwn : List Cond := .code yX11_isOwn cX11_isOwn 2 (some .boolean) :: wAll
theorem yd_yX11_isOwn : yX11_isOwn.cls ≠ "java/lang/invoke/MethodHandle" ∧ yX11_isOwn.cls ≠ "java/lang/invoke/VarHandle" ∧ (parseMethodDescriptor yX11_isOwn.desc).map (fun d => d.parameters.length) = some 2 := by decide +kernel
abbrev rm_m_isOwn : Room := { frames := 0, cells := 0, slots := 0, locals := 0 }
def m_isOwn_b34  : Int32 := (1 : Int32)
set_option maxHeartbeats 4000000 in
set_option maxRecDepth 100000 in
theorem k_m_isOwn_b34 {p : Program} {l : Launch} {e : Env} {s : State} {m : MethodId} {args : Array Value} {below : List Frame} {meth : Method} {c : Code} {A : Nat → Prop} (g : Gm) (C : cX p s m args meth c A cX11_isOwn (some .boolean) 2 RX11 wq_X11_isOwn (gD g) vwCl (mty g) (mz g)) (st : CS) (H : Heap) (locs : List Loc) (ls : Array Slot) (hI : cI (gD g) vwCl (mw g) A s st H locs) (hl : lv_has ls 2 []) (X : Int32) (hF : X = m_isOwn_b34 ) : W p l e rm_m_isOwn s m args below meth c H locs 0 0 (MQ below (cQi (gD g) vwCl (mty g) (mw g) A st X) args s 0 0 A) (F0 m 34 ls []) := by
  obtain ⟨hx, hb, hr, hml, hown, hts, hlocks, hK, hA, hZ, hzo⟩ := id C
  unfold m_isOwn_b34 at hF
  refine lv_iconst (v := (1 : Int32)) hx hb dX11_isOwn_34 (by decide) ?_
  refine lv_goto (tgt := 39) hx hb dX11_isOwn_35 (by decide) ?_
  exact cx_zret C hI rfl hF rfl dX11_isOwn_39
def m_isOwn_b17  (x0 : Int32) (x1 : Int32) : Int32 := (if (x0 ≤ (1 : Int32)) then (0 : Int32) else (if (x1 = (13 : Int32)) then (m_isOwn_b34 ) else (if (x1 = (14 : Int32)) then (m_isOwn_b34 ) else (0 : Int32))))
set_option maxHeartbeats 4000000 in
set_option maxRecDepth 100000 in
theorem k_m_isOwn_b17 {p : Program} {l : Launch} {e : Env} {s : State} {m : MethodId} {args : Array Value} {below : List Frame} {meth : Method} {c : Code} {A : Nat → Prop} (g : Gm) (C : cX p s m args meth c A cX11_isOwn (some .boolean) 2 RX11 wq_X11_isOwn (gD g) vwCl (mty g) (mz g)) (st : CS) (x0 : Int32) (x1 : Int32) (H : Heap) (locs : List Loc) (ls : Array Slot) (hI : cI (gD g) vwCl (mw g) A s st H locs) (hl : lv_has ls 2 [(0, .int x0), (1, .int x1)]) (X : Int32) (hF : X = m_isOwn_b17 x0 x1) : W p l e rm_m_isOwn s m args below meth c H locs 0 0 (MQ below (cQi (gD g) vwCl (mty g) (mw g) A st X) args s 0 0 A) (F0 m 17 ls []) := by
  obtain ⟨hx, hb, hr, hml, hown, hts, hlocks, hK, hA, hZ, hzo⟩ := id C
  unfold m_isOwn_b17 at hF
  refine lv_iload_n hx hb dX11_isOwn_17 rfl (lv_at hl 0 rfl) ?_
  refine lv_iconst (v := (1 : Int32)) hx hb dX11_isOwn_18 (by decide) ?_
  refine lv_icmp_le (tgt := 38) hx hb dX11_isOwn_19 (by decide) (fun c_19 => ?_) (fun c_19 => ?_)
  · have hF := hF.trans (if_pos c_19)
    refine lv_iconst (v := (0 : Int32)) hx hb dX11_isOwn_38 (by decide) ?_
    exact cx_zret C hI rfl hF rfl dX11_isOwn_39
  · have hF := hF.trans (if_neg c_19)
    refine lv_iload_n hx hb dX11_isOwn_22 rfl (lv_at hl 1 rfl) ?_
    refine lv_bipush (v := (13 : Int32)) hx hb dX11_isOwn_23 (by decide) ?_
    refine lv_icmp_eq (tgt := 34) hx hb dX11_isOwn_25 (by decide) (fun c_25 => ?_) (fun c_25 => ?_)
    · have hF := hF.trans (if_pos c_25)
      exact k_m_isOwn_b34 g C st  H locs ls hI (lv_sub hl [] rfl) X hF
    · have hF := hF.trans (if_neg c_25)
      refine lv_iload_n hx hb dX11_isOwn_28 rfl (lv_at hl 1 rfl) ?_
      refine lv_bipush (v := (14 : Int32)) hx hb dX11_isOwn_29 (by decide) ?_
      refine lv_icmp_ne (tgt := 38) hx hb dX11_isOwn_31 (by decide) (fun c_31 => ?_) (fun c_31 => ?_)
      · have hF := hF.trans (if_neg c_31)
        refine lv_iconst (v := (0 : Int32)) hx hb dX11_isOwn_38 (by decide) ?_
        exact cx_zret C hI rfl hF rfl dX11_isOwn_39
      · have hF := hF.trans (if_pos c_31)
        exact k_m_isOwn_b34 g C st  H locs ls hI (lv_sub hl [] rfl) X hF
def m_isOwn (x0 : Int32) (x1 : Int32) : Int32 := (if (x0 = (1 : Int32)) then (if (x1 < (8 : Int32)) then (m_isOwn_b17 x0 x1) else (if (x1 < (15 : Int32)) then (m_isOwn_b34 ) else (m_isOwn_b17 x0 x1))) else (m_isOwn_b17 x0 x1))
set_option maxHeartbeats 4000000 in
set_option maxRecDepth 100000 in
theorem k_m_isOwn {p : Program} {l : Launch} {e : Env} {s : State} {m : MethodId} {args : Array Value} {below : List Frame} {meth : Method} {c : Code} {A : Nat → Prop} (g : Gm) (C : cX p s m args meth c A cX11_isOwn (some .boolean) 2 RX11 wq_X11_isOwn (gD g) vwCl (mty g) (mz g)) (st : CS) (x0 : Int32) (x1 : Int32) (H : Heap) (locs : List Loc) (ls : Array Slot) (hI : cI (gD g) vwCl (mw g) A s st H locs) (hl : lv_has ls 2 [(0, .int x0), (1, .int x1)]) (X : Int32) (hF : X = m_isOwn x0 x1) : W p l e rm_m_isOwn s m args below meth c H locs 0 0 (MQ below (cQi (gD g) vwCl (mty g) (mw g) A st X) args s 0 0 A) (F0 m 0 ls []) := by
  obtain ⟨hx, hb, hr, hml, hown, hts, hlocks, hK, hA, hZ, hzo⟩ := id C
  unfold m_isOwn at hF
  refine lv_iload_n hx hb dX11_isOwn_0 rfl (lv_at hl 0 rfl) ?_
  refine lv_iconst (v := (1 : Int32)) hx hb dX11_isOwn_1 (by decide) ?_
  refine lv_icmp_ne (tgt := 17) hx hb dX11_isOwn_2 (by decide) (fun c_2 => ?_) (fun c_2 => ?_)
  · have hF := hF.trans (if_neg c_2)
    exact k_m_isOwn_b17 g C st x0 x1 H locs ls hI (lv_sub hl [0, 1] rfl) X hF
  · have hF := hF.trans (if_pos c_2)
    refine lv_iload_n hx hb dX11_isOwn_5 rfl (lv_at hl 1 rfl) ?_
    refine lv_bipush (v := (8 : Int32)) hx hb dX11_isOwn_6 (by decide) ?_
    refine lv_icmp_lt (tgt := 17) hx hb dX11_isOwn_8 (by decide) (fun c_8 => ?_) (fun c_8 => ?_)
    · have hF := hF.trans (if_pos c_8)
      exact k_m_isOwn_b17 g C st x0 x1 H locs ls hI (lv_sub hl [0, 1] rfl) X hF
    · have hF := hF.trans (if_neg c_8)
      refine lv_iload_n hx hb dX11_isOwn_11 rfl (lv_at hl 1 rfl) ?_
      refine lv_bipush (v := (15 : Int32)) hx hb dX11_isOwn_12 (by decide) ?_
      refine lv_icmp_lt (tgt := 34) hx hb dX11_isOwn_14 (by decide) (fun c_14 => ?_) (fun c_14 => ?_)
      · have hF := hF.trans (if_pos c_14)
        exact k_m_isOwn_b34 g C st  H locs ls hI (lv_sub hl [] rfl) X hF
      · have hF := hF.trans (if_neg c_14)
        exact k_m_isOwn_b17 g C st x0 x1 H locs ls hI (lv_sub hl [0, 1] rfl) X hF
set_option maxHeartbeats 4000000 in
set_option maxRecDepth 100000 in
theorem c_m_isOwn (l : Launch) (g : Gm) (st : CS) (x0 : Int32) (x1 : Int32) : Mi l yX11_isOwn wq_X11_isOwn rm_m_isOwn (gD g) vwCl (mty g) (mw g) (mz g) [.int x0, .int x1] st st (m_isOwn x0 x1) := by
  intro sz
  refine Met.ofW (cc := cX11_isOwn) (maxL := 2) (ret := (some .boolean)) (by decide) rfl ?_
  intro p e s m args below meth c s₁ B hml hv
  obtain ⟨rfl, hsz, hP, hK, hD0, hZ⟩ := hv
  subst hsz
  have hl := lv_entry ([.int x0, .int x1]) (n := 2) (Nat.le_of_ble_eq_true rfl)
  rw [lg_entry_eq]
  generalize (lg_sl ([.int x0, .int x1]) ++ List.replicate (2 - (lg_sl ([.int x0, .int x1])).length) Slot.unset).toArray = ls at hl ⊢
  exact k_m_isOwn g ⟨B.exec, B.bytes, B.returns, hml, findClass_of_methodNamed B.named, atoms_spec (ws := wq_X11_isOwn) B.pre, B.notSynchronized, hK, fun q h => Or.inr h, hZ, mz_ok g⟩ st x0 x1 _ _ ls ⟨hP, hD0.self, va_S.rf⟩ hl _ rfl
abbrev wq_X11_get : List Cond := .code yX11_get cX11_get 3 (some .int) :: wAll
theorem yd_yX11_get : yX11_get.cls = RX11 ∧ yX11_get.cls ≠ "java/lang/invoke/MethodHandle" ∧ yX11_get.cls ≠ "java/lang/invoke/VarHandle" ∧ (parseMethodDescriptor yX11_get.desc).map (fun d => d.parameters.length) = some 2 := by decide +kernel
abbrev rm_m_get : Room := { frames := 1, cells := 0, slots := 0, locals := 21 }
def m_get (st : CS) (x1 : Int32) (x2 : Int32) : Int32 := (if (x2 = (15 : Int32)) then (gI st 1) else (if ((m_isOwn x1 x2) = 0) then ((gA st 0) x2.toNatClampNeg) else (if (x1 = (1 : Int32)) then ((gA st 1) (x2 - (8 : Int32)).toNatClampNeg) else (if (x1 = (2 : Int32)) then ((gA st 2) (x2 - (13 : Int32)).toNatClampNeg) else ((gA st 3) (x2 - (13 : Int32)).toNatClampNeg)))))
def o_m_get (st : CS) (x1 : Int32) (x2 : Int32) : Prop := (((x2 = (15 : Int32)) → True) ∧ (¬ (x2 = (15 : Int32)) → ((((m_isOwn x1 x2) = 0) → (vp_in x2 15 ∧ True)) ∧ (¬ ((m_isOwn x1 x2) = 0) → (((x1 = (1 : Int32)) → (vp_in (x2 - (8 : Int32)) 7 ∧ True)) ∧ (¬ (x1 = (1 : Int32)) → (((x1 = (2 : Int32)) → (vp_in (x2 - (13 : Int32)) 2 ∧ True)) ∧ (¬ (x1 = (2 : Int32)) → (vp_in (x2 - (13 : Int32)) 2 ∧ True)))))))))
set_option maxHeartbeats 4000000 in
set_option maxRecDepth 100000 in
theorem k_m_get {p : Program} {l : Launch} {e : Env} {s : State} {m : MethodId} {args : Array Value} {below : List Frame} {meth : Method} {c : Code} {A : Nat → Prop} (g : Gm) (C : cX p s m args meth c A cX11_get (some .int) 3 RX11 wq_X11_get (gD g) vwCl (mty g) (mz g)) (st : CS) (x1 : Int32) (x2 : Int32) (H : Heap) (locs : List Loc) (ls : Array Slot) (hI : cI (gD g) vwCl (mw g) A s st H locs) (hl : lv_has ls 3 [(0, .ref (gad g 0)), (1, .int x1), (2, .int x2)]) (hO : o_m_get st x1 x2) (X : Int32) (hF : X = m_get st x1 x2) : W p l e rm_m_get s m args below meth c H locs 0 0 (MQ below (cQi (gD g) vwCl (mty g) (mw g) A st X) args s 0 0 A) (F0 m 0 ls []) := by
  obtain ⟨hx, hb, hr, hml, hown, hts, hlocks, hK, hA, hZ, hzo⟩ := id C
  unfold m_get at hF
  unfold o_m_get at hO
  refine lv_iload_n hx hb dX11_get_0 rfl (lv_at hl 2 rfl) ?_
  refine lv_bipush (v := (15 : Int32)) hx hb dX11_get_1 (by decide) ?_
  refine lv_icmp_ne (tgt := 11) hx hb dX11_get_3 (by decide) (fun c_3 => ?_) (fun c_3 => ?_)
  · have hF := hF.trans (if_neg c_3)
    have hO := hO.2 c_3
    refine lv_iload_n hx hb dX11_get_11 rfl (lv_at hl 1 rfl) ?_
    refine lv_iload_n hx hb dX11_get_12 rfl (lv_at hl 2 rfl) ?_
    refine cx_Si (As := [.int x1, .int x2]) (rest := []) C (c_m_isOwn l g st x1 x2) (va_cwS 2 hts (gd_S _ mw781 mw782 mw3 mw783) rfl rfl rfl yd_yX11_isOwn ⟨Nat.le_of_ble_eq_true rfl, Nat.le_of_ble_eq_true rfl⟩) hI rfl hl.1 rfl (Nat.le_of_ble_eq_true rfl) dX11_get_13 (fun H locs hI => ?_)
    refine lv_if_ne (tgt := 26) hx hb dX11_get_16 (by decide) (fun c_16 => ?_) (fun c_16 => ?_)
    · have hF := hF.trans (if_neg c_16)
      have hO := hO.2 c_16
      refine lv_iload_n hx hb dX11_get_26 rfl (lv_at hl 1 rfl) ?_
      refine lv_iconst (v := (1 : Int32)) hx hb dX11_get_27 (by decide) ?_
      refine lv_icmp_ne (tgt := 43) hx hb dX11_get_28 (by decide) (fun c_28 => ?_) (fun c_28 => ?_)
      · have hF := hF.trans (if_neg c_28)
        have hO := hO.2 c_28
        refine lv_iload_n hx hb dX11_get_43 rfl (lv_at hl 1 rfl) ?_
        refine lv_iconst (v := (2 : Int32)) hx hb dX11_get_44 (by decide) ?_
        refine lv_icmp_ne (tgt := 60) hx hb dX11_get_45 (by decide) (fun c_45 => ?_) (fun c_45 => ?_)
        · have hF := hF.trans (if_neg c_45)
          have hO := hO.2 c_45
          refine lv_aload_n hx hb dX11_get_60 rfl (lv_at hl 0 rfl) ?_
          refine va_get (D := gD g) (ci := 11) (C := RX11) (T := TX11) (N := 50) (v := .ref (gad g 4)) hx hb hts (fun w h => List.mem_cons_of_mem _ (isX110 w h)) hown hK hI.1 0 rfl rfl 4 (by decide) (hts _ (List.mem_cons_of_mem _ mw188)) (fun _ h9 => h9) rfl dX11_get_61 ?_
          refine lv_iload_n hx hb dX11_get_64 rfl (lv_at hl 2 rfl) ?_
          refine lv_bipush (v := (13 : Int32)) hx hb dX11_get_65 (by decide) ?_
          refine lv_isub hx hb dX11_get_67 ?_
          have hq_68_0 := hO.1
          have hO := hO.2
          refine va_iald (f := (gA st 3)) hx hb hK hI.1 4 3 rfl rfl hq_68_0 dX11_get_68 ?_
          exact cx_iret C hI rfl hF dX11_get_69
        · have hF := hF.trans (if_pos c_45)
          have hO := hO.1 c_45
          refine lv_aload_n hx hb dX11_get_48 rfl (lv_at hl 0 rfl) ?_
          refine va_get (D := gD g) (ci := 11) (C := RX11) (T := TX11) (N := 50) (v := .ref (gad g 3)) hx hb hts (fun w h => List.mem_cons_of_mem _ (isX110 w h)) hown hK hI.1 0 rfl rfl 3 (by decide) (hts _ (List.mem_cons_of_mem _ mw187)) (fun _ h9 => h9) rfl dX11_get_49 ?_
          refine lv_iload_n hx hb dX11_get_52 rfl (lv_at hl 2 rfl) ?_
          refine lv_bipush (v := (13 : Int32)) hx hb dX11_get_53 (by decide) ?_
          refine lv_isub hx hb dX11_get_55 ?_
          have hq_56_0 := hO.1
          have hO := hO.2
          refine va_iald (f := (gA st 2)) hx hb hK hI.1 3 2 rfl rfl hq_56_0 dX11_get_56 ?_
          refine lv_goto (tgt := 69) hx hb dX11_get_57 (by decide) ?_
          exact cx_iret C hI rfl hF dX11_get_69
      · have hF := hF.trans (if_pos c_28)
        have hO := hO.1 c_28
        refine lv_aload_n hx hb dX11_get_31 rfl (lv_at hl 0 rfl) ?_
        refine va_get (D := gD g) (ci := 11) (C := RX11) (T := TX11) (N := 50) (v := .ref (gad g 2)) hx hb hts (fun w h => List.mem_cons_of_mem _ (isX110 w h)) hown hK hI.1 0 rfl rfl 2 (by decide) (hts _ (List.mem_cons_of_mem _ mw186)) (fun _ h9 => h9) rfl dX11_get_32 ?_
        refine lv_iload_n hx hb dX11_get_35 rfl (lv_at hl 2 rfl) ?_
        refine lv_bipush (v := (8 : Int32)) hx hb dX11_get_36 (by decide) ?_
        refine lv_isub hx hb dX11_get_38 ?_
        have hq_39_0 := hO.1
        have hO := hO.2
        refine va_iald (f := (gA st 1)) hx hb hK hI.1 2 1 rfl rfl hq_39_0 dX11_get_39 ?_
        refine lv_goto (tgt := 69) hx hb dX11_get_40 (by decide) ?_
        exact cx_iret C hI rfl hF dX11_get_69
    · have hF := hF.trans (if_pos c_16)
      have hO := hO.1 c_16
      refine lv_aload_n hx hb dX11_get_19 rfl (lv_at hl 0 rfl) ?_
      refine va_get (D := gD g) (ci := 11) (C := RX11) (T := TX11) (N := 50) (v := .ref (gad g 1)) hx hb hts (fun w h => List.mem_cons_of_mem _ (isX110 w h)) hown hK hI.1 0 rfl rfl 1 (by decide) (hts _ (List.mem_cons_of_mem _ mw185)) (fun _ h9 => h9) rfl dX11_get_20 ?_
      refine lv_iload_n hx hb dX11_get_23 rfl (lv_at hl 2 rfl) ?_
      have hq_24_0 := hO.1
      have hO := hO.2
      refine va_iald (f := (gA st 0)) hx hb hK hI.1 1 0 rfl rfl hq_24_0 dX11_get_24 ?_
      exact cx_iret C hI rfl hF dX11_get_25
  · have hF := hF.trans (if_pos c_3)
    have hO := hO.1 c_3
    refine lv_aload_n hx hb dX11_get_6 rfl (lv_at hl 0 rfl) ?_
    refine va_get (D := gD g) (ci := 11) (C := RX11) (T := TX11) (N := 50) (v := .int (gI st 1)) hx hb hts (fun w h => List.mem_cons_of_mem _ (isX110 w h)) hown hK hI.1 0 rfl rfl 5 (by decide) (hts _ (List.mem_cons_of_mem _ mw210)) (fun _ h9 => h9) rfl dX11_get_7 ?_
    exact cx_iret C hI rfl hF dX11_get_10
set_option maxHeartbeats 4000000 in
set_option maxRecDepth 100000 in
theorem c_m_get (l : Launch) (g : Gm) (st : CS) (x1 : Int32) (x2 : Int32) (hO : o_m_get st x1 x2) : Mi l yX11_get wq_X11_get rm_m_get (gD g) vwCl (mty g) (mw g) (mz g) [.ref (gad g 0), .int x1, .int x2] st st (m_get st x1 x2) := by
  intro sz
  refine Met.ofW (cc := cX11_get) (maxL := 3) (ret := (some .int)) (by decide) rfl ?_
  intro p e s m args below meth c s₁ B hml hv
  obtain ⟨rfl, hsz, hP, hK, hD0, hZ⟩ := hv
  subst hsz
  have hl := lv_entry ([.ref (gad g 0), .int x1, .int x2]) (n := 3) (Nat.le_of_ble_eq_true rfl)
  rw [lg_entry_eq]
  generalize (lg_sl ([.ref (gad g 0), .int x1, .int x2]) ++ List.replicate (3 - (lg_sl ([.ref (gad g 0), .int x1, .int x2])).length) Slot.unset).toArray = ls at hl ⊢
  exact k_m_get g ⟨B.exec, B.bytes, B.returns, hml, findClass_of_methodNamed B.named, atoms_spec (ws := wq_X11_get) B.pre, B.notSynchronized, hK, fun q h => Or.inr h, hZ, mz_ok g⟩ st x1 x2 _ _ ls ⟨hP, hD0.self, va_S.rf⟩ hl hO _ rfl
abbrev wq_X11_give : List Cond := .code yX11_give cX11_give 4 none :: wAll
theorem yd_yX11_give : yX11_give.cls = RX11 ∧ yX11_give.cls ≠ "java/lang/invoke/MethodHandle" ∧ yX11_give.cls ≠ "java/lang/invoke/VarHandle" ∧ (parseMethodDescriptor yX11_give.desc).map (fun d => d.parameters.length) = some 3 := by decide +kernel
abbrev rm_m_give : Room := { frames := 1, cells := 0, slots := 0, locals := 21 }
def m_give (st : CS) (x1 : Int32) (x2 : Int32) (x3 : Int32) : CS := (if (x2 = (15 : Int32)) then (sI st 1 x3) else (if ((m_isOwn x1 x2) = 0) then (sA st 0 (upd (gA st 0) x2.toNatClampNeg x3)) else (if (x1 = (1 : Int32)) then (sA st 1 (upd (gA st 1) (x2 - (8 : Int32)).toNatClampNeg x3)) else (if (x1 = (2 : Int32)) then (sA st 2 (upd (gA st 2) (x2 - (13 : Int32)).toNatClampNeg x3)) else (sA st 3 (upd (gA st 3) (x2 - (13 : Int32)).toNatClampNeg x3))))))
def o_m_give (st : CS) (x1 : Int32) (x2 : Int32) (x3 : Int32) : Prop := (((x2 = (15 : Int32)) → True) ∧ (¬ (x2 = (15 : Int32)) → ((((m_isOwn x1 x2) = 0) → (vp_in x2 15 ∧ True)) ∧ (¬ ((m_isOwn x1 x2) = 0) → (((x1 = (1 : Int32)) → (vp_in (x2 - (8 : Int32)) 7 ∧ True)) ∧ (¬ (x1 = (1 : Int32)) → (((x1 = (2 : Int32)) → (vp_in (x2 - (13 : Int32)) 2 ∧ True)) ∧ (¬ (x1 = (2 : Int32)) → (vp_in (x2 - (13 : Int32)) 2 ∧ True)))))))))
set_option maxHeartbeats 4000000 in
set_option maxRecDepth 100000 in
theorem k_m_give {p : Program} {l : Launch} {e : Env} {s : State} {m : MethodId} {args : Array Value} {below : List Frame} {meth : Method} {c : Code} {A : Nat → Prop} (g : Gm) (C : cX p s m args meth c A cX11_give none 4 RX11 wq_X11_give (gD g) vwCl (mty g) (mz g)) (st : CS) (x1 : Int32) (x2 : Int32) (x3 : Int32) (H : Heap) (locs : List Loc) (ls : Array Slot) (hI : cI (gD g) vwCl (mw g) A s st H locs) (hl : lv_has ls 4 [(0, .ref (gad g 0)), (1, .int x1), (2, .int x2), (3, .int x3)]) (hO : o_m_give st x1 x2 x3) (X : CS) (hF : X = m_give st x1 x2 x3) : W p l e rm_m_give s m args below meth c H locs 0 0 (MQ below (cQv (gD g) vwCl (mty g) (mw g) A X) args s 0 0 A) (F0 m 0 ls []) := by
  obtain ⟨hx, hb, hr, hml, hown, hts, hlocks, hK, hA, hZ, hzo⟩ := id C
  unfold m_give at hF
  unfold o_m_give at hO
  refine lv_iload_n hx hb dX11_give_0 rfl (lv_at hl 2 rfl) ?_
  refine lv_bipush (v := (15 : Int32)) hx hb dX11_give_1 (by decide) ?_
  refine lv_icmp_ne (tgt := 14) hx hb dX11_give_3 (by decide) (fun c_3 => ?_) (fun c_3 => ?_)
  · have hF := hF.trans (if_neg c_3)
    have hO := hO.2 c_3
    refine lv_iload_n hx hb dX11_give_14 rfl (lv_at hl 1 rfl) ?_
    refine lv_iload_n hx hb dX11_give_15 rfl (lv_at hl 2 rfl) ?_
    refine cx_Si (As := [.int x1, .int x2]) (rest := []) C (c_m_isOwn l g st x1 x2) (va_cwS 2 hts (gd_S _ mw781 mw782 mw3 mw783) rfl rfl rfl yd_yX11_isOwn ⟨Nat.le_of_ble_eq_true rfl, Nat.le_of_ble_eq_true rfl⟩) hI rfl hl.1 rfl (Nat.le_of_ble_eq_true rfl) dX11_give_16 (fun H locs hI => ?_)
    refine lv_if_ne (tgt := 32) hx hb dX11_give_19 (by decide) (fun c_19 => ?_) (fun c_19 => ?_)
    · have hF := hF.trans (if_neg c_19)
      have hO := hO.2 c_19
      refine lv_iload_n hx hb dX11_give_32 rfl (lv_at hl 1 rfl) ?_
      refine lv_iconst (v := (1 : Int32)) hx hb dX11_give_33 (by decide) ?_
      refine lv_icmp_ne (tgt := 50) hx hb dX11_give_34 (by decide) (fun c_34 => ?_) (fun c_34 => ?_)
      · have hF := hF.trans (if_neg c_34)
        have hO := hO.2 c_34
        refine lv_iload_n hx hb dX11_give_50 rfl (lv_at hl 1 rfl) ?_
        refine lv_iconst (v := (2 : Int32)) hx hb dX11_give_51 (by decide) ?_
        refine lv_icmp_ne (tgt := 68) hx hb dX11_give_52 (by decide) (fun c_52 => ?_) (fun c_52 => ?_)
        · have hF := hF.trans (if_neg c_52)
          have hO := hO.2 c_52
          refine lv_aload_n hx hb dX11_give_68 rfl (lv_at hl 0 rfl) ?_
          refine va_get (D := gD g) (ci := 11) (C := RX11) (T := TX11) (N := 50) (v := .ref (gad g 4)) hx hb hts (fun w h => List.mem_cons_of_mem _ (isX110 w h)) hown hK hI.1 0 rfl rfl 4 (by decide) (hts _ (List.mem_cons_of_mem _ mw188)) (fun _ h9 => h9) rfl dX11_give_69 ?_
          refine lv_iload_n hx hb dX11_give_72 rfl (lv_at hl 2 rfl) ?_
          refine lv_bipush (v := (13 : Int32)) hx hb dX11_give_73 (by decide) ?_
          refine lv_isub hx hb dX11_give_75 ?_
          refine lv_iload_n hx hb dX11_give_76 rfl (lv_at hl 3 rfl) ?_
          have hq_77_0 := hO.1
          have hO := hO.2
          refine va_iast (f := (gA st 3)) hx hb hK hI.1 hI.2.1 hI.2.2 4 3 rfl rfl hq_77_0 dX11_give_77 (fun H locs hP hD hS => ?_)
          have hI : cI (gD g) vwCl (mw g) A s (sA st 3 (upd (gA st 3) (x2 - (13 : Int32)).toNatClampNeg x3)) H locs := ⟨hP, hD, hS⟩
          exact cx_vret C hI hF dX11_give_78
        · have hF := hF.trans (if_pos c_52)
          have hO := hO.1 c_52
          refine lv_aload_n hx hb dX11_give_55 rfl (lv_at hl 0 rfl) ?_
          refine va_get (D := gD g) (ci := 11) (C := RX11) (T := TX11) (N := 50) (v := .ref (gad g 3)) hx hb hts (fun w h => List.mem_cons_of_mem _ (isX110 w h)) hown hK hI.1 0 rfl rfl 3 (by decide) (hts _ (List.mem_cons_of_mem _ mw187)) (fun _ h9 => h9) rfl dX11_give_56 ?_
          refine lv_iload_n hx hb dX11_give_59 rfl (lv_at hl 2 rfl) ?_
          refine lv_bipush (v := (13 : Int32)) hx hb dX11_give_60 (by decide) ?_
          refine lv_isub hx hb dX11_give_62 ?_
          refine lv_iload_n hx hb dX11_give_63 rfl (lv_at hl 3 rfl) ?_
          have hq_64_0 := hO.1
          have hO := hO.2
          refine va_iast (f := (gA st 2)) hx hb hK hI.1 hI.2.1 hI.2.2 3 2 rfl rfl hq_64_0 dX11_give_64 (fun H locs hP hD hS => ?_)
          have hI : cI (gD g) vwCl (mw g) A s (sA st 2 (upd (gA st 2) (x2 - (13 : Int32)).toNatClampNeg x3)) H locs := ⟨hP, hD, hS⟩
          refine lv_goto (tgt := 78) hx hb dX11_give_65 (by decide) ?_
          exact cx_vret C hI hF dX11_give_78
      · have hF := hF.trans (if_pos c_34)
        have hO := hO.1 c_34
        refine lv_aload_n hx hb dX11_give_37 rfl (lv_at hl 0 rfl) ?_
        refine va_get (D := gD g) (ci := 11) (C := RX11) (T := TX11) (N := 50) (v := .ref (gad g 2)) hx hb hts (fun w h => List.mem_cons_of_mem _ (isX110 w h)) hown hK hI.1 0 rfl rfl 2 (by decide) (hts _ (List.mem_cons_of_mem _ mw186)) (fun _ h9 => h9) rfl dX11_give_38 ?_
        refine lv_iload_n hx hb dX11_give_41 rfl (lv_at hl 2 rfl) ?_
        refine lv_bipush (v := (8 : Int32)) hx hb dX11_give_42 (by decide) ?_
        refine lv_isub hx hb dX11_give_44 ?_
        refine lv_iload_n hx hb dX11_give_45 rfl (lv_at hl 3 rfl) ?_
        have hq_46_0 := hO.1
        have hO := hO.2
        refine va_iast (f := (gA st 1)) hx hb hK hI.1 hI.2.1 hI.2.2 2 1 rfl rfl hq_46_0 dX11_give_46 (fun H locs hP hD hS => ?_)
        have hI : cI (gD g) vwCl (mw g) A s (sA st 1 (upd (gA st 1) (x2 - (8 : Int32)).toNatClampNeg x3)) H locs := ⟨hP, hD, hS⟩
        refine lv_goto (tgt := 78) hx hb dX11_give_47 (by decide) ?_
        exact cx_vret C hI hF dX11_give_78
    · have hF := hF.trans (if_pos c_19)
      have hO := hO.1 c_19
      refine lv_aload_n hx hb dX11_give_22 rfl (lv_at hl 0 rfl) ?_
      refine va_get (D := gD g) (ci := 11) (C := RX11) (T := TX11) (N := 50) (v := .ref (gad g 1)) hx hb hts (fun w h => List.mem_cons_of_mem _ (isX110 w h)) hown hK hI.1 0 rfl rfl 1 (by decide) (hts _ (List.mem_cons_of_mem _ mw185)) (fun _ h9 => h9) rfl dX11_give_23 ?_
      refine lv_iload_n hx hb dX11_give_26 rfl (lv_at hl 2 rfl) ?_
      refine lv_iload_n hx hb dX11_give_27 rfl (lv_at hl 3 rfl) ?_
      have hq_28_0 := hO.1
      have hO := hO.2
      refine va_iast (f := (gA st 0)) hx hb hK hI.1 hI.2.1 hI.2.2 1 0 rfl rfl hq_28_0 dX11_give_28 (fun H locs hP hD hS => ?_)
      have hI : cI (gD g) vwCl (mw g) A s (sA st 0 (upd (gA st 0) x2.toNatClampNeg x3)) H locs := ⟨hP, hD, hS⟩
      refine lv_goto (tgt := 78) hx hb dX11_give_29 (by decide) ?_
      exact cx_vret C hI hF dX11_give_78
  · have hF := hF.trans (if_pos c_3)
    have hO := hO.1 c_3
    refine lv_aload_n hx hb dX11_give_6 rfl (lv_at hl 0 rfl) ?_
    refine lv_iload_n hx hb dX11_give_7 rfl (lv_at hl 3 rfl) ?_
    refine va_put (D := gD g) (ci := 11) (C := RX11) (T := TX11) (N := 50) (v := .int x3) (ty := .int) hx hb hts (fun w h => List.mem_cons_of_mem _ (isX110 w h)) tyX11 tyX11_ok nmX11 hown hK hI.1 hI.2.1 hI.2.2 0 rfl rfl 5 (by decide) (hts _ (List.mem_cons_of_mem _ mw210)) (fun _ h9 => h9) rfl (by decide +kernel) rfl rfl (Nat.le_of_ble_eq_true rfl) dX11_give_8 (fun H locs hP hD hS => ?_)
    have hI : cI (gD g) vwCl (mw g) A s (sI st 1 x3) H locs := ⟨hP, hD, hS⟩
    refine lv_goto (tgt := 78) hx hb dX11_give_11 (by decide) ?_
    exact cx_vret C hI hF dX11_give_78
set_option maxHeartbeats 4000000 in
set_option maxRecDepth 100000 in
theorem c_m_give (l : Launch) (g : Gm) (st : CS) (x1 : Int32) (x2 : Int32) (x3 : Int32) (hO : o_m_give st x1 x2 x3) : Mv l yX11_give wq_X11_give rm_m_give (gD g) vwCl (mty g) (mw g) (mz g) [.ref (gad g 0), .int x1, .int x2, .int x3] st (m_give st x1 x2 x3) := by
  intro sz
  refine Met.ofW (cc := cX11_give) (maxL := 4) (ret := none) (by decide) rfl ?_
  intro p e s m args below meth c s₁ B hml hv
  obtain ⟨rfl, hsz, hP, hK, hD0, hZ⟩ := hv
  subst hsz
  have hl := lv_entry ([.ref (gad g 0), .int x1, .int x2, .int x3]) (n := 4) (Nat.le_of_ble_eq_true rfl)
  rw [lg_entry_eq]
  generalize (lg_sl ([.ref (gad g 0), .int x1, .int x2, .int x3]) ++ List.replicate (4 - (lg_sl ([.ref (gad g 0), .int x1, .int x2, .int x3])).length) Slot.unset).toArray = ls at hl ⊢
  exact k_m_give g ⟨B.exec, B.bytes, B.returns, hml, findClass_of_methodNamed B.named, atoms_spec (ws := wq_X11_give) B.pre, B.notSynchronized, hK, fun q h => Or.inr h, hZ, mz_ok g⟩ st x1 x2 x3 _ _ ls ⟨hP, hD0.self, va_S.rf⟩ hl hO _ rfl
abbrev wq_X11_ahead : List Cond := .code yX11_ahead cX11_ahead 2 (some .int) :: wAll
theorem yd_yX11_ahead : yX11_ahead.cls = RX11 ∧ yX11_ahead.cls ≠ "java/lang/invoke/MethodHandle" ∧ yX11_ahead.cls ≠ "java/lang/invoke/VarHandle" ∧ (parseMethodDescriptor yX11_ahead.desc).map (fun d => d.parameters.length) = some 1 := by decide +kernel
abbrev rm_m_ahead : Room := { frames := 0, cells := 0, slots := 0, locals := 0 }
def m_ahead (st : CS) (x1 : Int32) : Int32 := (((gI st 2) + x1) &&& (67108860 : Int32))
set_option maxHeartbeats 4000000 in
set_option maxRecDepth 100000 in
theorem k_m_ahead {p : Program} {l : Launch} {e : Env} {s : State} {m : MethodId} {args : Array Value} {below : List Frame} {meth : Method} {c : Code} {A : Nat → Prop} (g : Gm) (C : cX p s m args meth c A cX11_ahead (some .int) 2 RX11 wq_X11_ahead (gD g) vwCl (mty g) (mz g)) (st : CS) (x1 : Int32) (H : Heap) (locs : List Loc) (ls : Array Slot) (hI : cI (gD g) vwCl (mw g) A s st H locs) (hl : lv_has ls 2 [(0, .ref (gad g 0)), (1, .int x1)]) (X : Int32) (hF : X = m_ahead st x1) : W p l e rm_m_ahead s m args below meth c H locs 0 0 (MQ below (cQi (gD g) vwCl (mty g) (mw g) A st X) args s 0 0 A) (F0 m 0 ls []) := by
  obtain ⟨hx, hb, hr, hml, hown, hts, hlocks, hK, hA, hZ, hzo⟩ := id C
  unfold m_ahead at hF
  refine lv_aload_n hx hb dX11_ahead_0 rfl (lv_at hl 0 rfl) ?_
  refine va_get (D := gD g) (ci := 11) (C := RX11) (T := TX11) (N := 50) (v := .int (gI st 2)) hx hb hts (fun w h => List.mem_cons_of_mem _ (isX110 w h)) hown hK hI.1 0 rfl rfl 6 (by decide) (hts _ (List.mem_cons_of_mem _ mw749)) (fun _ h9 => h9) rfl dX11_ahead_1 ?_
  refine lv_iload_n hx hb dX11_ahead_4 rfl (lv_at hl 1 rfl) ?_
  refine lv_iadd hx hb dX11_ahead_5 ?_
  refine lv_ldc (v := (67108860 : Int32)) hx hb hown (hts _ (List.mem_cons_of_mem _ mw748)) dX11_ahead_6 ?_
  refine lv_iand hx hb dX11_ahead_8 ?_
  exact cx_iret C hI rfl hF dX11_ahead_9
set_option maxHeartbeats 4000000 in
set_option maxRecDepth 100000 in
theorem c_m_ahead (l : Launch) (g : Gm) (st : CS) (x1 : Int32) : Mi l yX11_ahead wq_X11_ahead rm_m_ahead (gD g) vwCl (mty g) (mw g) (mz g) [.ref (gad g 0), .int x1] st st (m_ahead st x1) := by
  intro sz
  refine Met.ofW (cc := cX11_ahead) (maxL := 2) (ret := (some .int)) (by decide) rfl ?_
  intro p e s m args below meth c s₁ B hml hv
  obtain ⟨rfl, hsz, hP, hK, hD0, hZ⟩ := hv
  subst hsz
  have hl := lv_entry ([.ref (gad g 0), .int x1]) (n := 2) (Nat.le_of_ble_eq_true rfl)
  rw [lg_entry_eq]
  generalize (lg_sl ([.ref (gad g 0), .int x1]) ++ List.replicate (2 - (lg_sl ([.ref (gad g 0), .int x1])).length) Slot.unset).toArray = ls at hl ⊢
  exact k_m_ahead g ⟨B.exec, B.bytes, B.returns, hml, findClass_of_methodNamed B.named, atoms_spec (ws := wq_X11_ahead) B.pre, B.notSynchronized, hK, fun q h => Or.inr h, hZ, mz_ok g⟩ st x1 _ _ ls ⟨hP, hD0.self, va_S.rf⟩ hl _ rfl
abbrev wq_X11_operand : List Cond := .code yX11_operand cX11_operand 2 (some .int) :: wAll
theorem yd_yX11_operand : yX11_operand.cls = RX11 ∧ yX11_operand.cls ≠ "java/lang/invoke/MethodHandle" ∧ yX11_operand.cls ≠ "java/lang/invoke/VarHandle" ∧ (parseMethodDescriptor yX11_operand.desc).map (fun d => d.parameters.length) = some 1 := by decide +kernel
abbrev rm_m_operand : Room := { frames := 2, cells := 0, slots := 0, locals := 43 }
def m_operand (st : CS) (x1 : Int32) : Int32 := (if (x1 = (15 : Int32)) then (m_ahead st (8 : Int32)) else (m_get st (m_mode st) x1))
def o_m_operand (st : CS) (x1 : Int32) : Prop := (((x1 = (15 : Int32)) → True) ∧ (¬ (x1 = (15 : Int32)) → ((o_m_get st (m_mode st) x1) ∧ True)))
set_option maxHeartbeats 4000000 in
set_option maxRecDepth 100000 in
theorem k_m_operand {p : Program} {l : Launch} {e : Env} {s : State} {m : MethodId} {args : Array Value} {below : List Frame} {meth : Method} {c : Code} {A : Nat → Prop} (g : Gm) (C : cX p s m args meth c A cX11_operand (some .int) 2 RX11 wq_X11_operand (gD g) vwCl (mty g) (mz g)) (st : CS) (x1 : Int32) (H : Heap) (locs : List Loc) (ls : Array Slot) (hI : cI (gD g) vwCl (mw g) A s st H locs) (hl : lv_has ls 2 [(0, .ref (gad g 0)), (1, .int x1)]) (hO : o_m_operand st x1) (X : Int32) (hF : X = m_operand st x1) : W p l e rm_m_operand s m args below meth c H locs 0 0 (MQ below (cQi (gD g) vwCl (mty g) (mw g) A st X) args s 0 0 A) (F0 m 0 ls []) := by
  obtain ⟨hx, hb, hr, hml, hown, hts, hlocks, hK, hA, hZ, hzo⟩ := id C
  unfold m_operand at hF
  unfold o_m_operand at hO
  refine lv_iload_n hx hb dX11_operand_0 rfl (lv_at hl 1 rfl) ?_
  refine lv_bipush (v := (15 : Int32)) hx hb dX11_operand_1 (by decide) ?_
  refine lv_icmp_ne (tgt := 15) hx hb dX11_operand_3 (by decide) (fun c_3 => ?_) (fun c_3 => ?_)
  · have hF := hF.trans (if_neg c_3)
    have hO := hO.2 c_3
    refine lv_aload_n hx hb dX11_operand_15 rfl (lv_at hl 0 rfl) ?_
    refine lv_aload_n hx hb dX11_operand_16 rfl (lv_at hl 0 rfl) ?_
    refine cx_Vi (As := []) (rest := [.ref (gad g 0)]) C (c_m_mode l g st ) (cwV 0 hts (gd_V _ mw796 mw797 mw798 mw3 mw799) rfl rfl rfl yd_yX11_mode ⟨Nat.le_of_ble_eq_true rfl, Nat.le_of_ble_eq_true rfl⟩) (va_recv hK hI.1 (ci := 11) (q0 := 0) rfl rfl) hI rfl hl.1 rfl (Nat.le_of_ble_eq_true rfl) dX11_operand_17 (fun H locs hI => ?_)
    refine lv_iload_n hx hb dX11_operand_20 rfl (lv_at hl 1 rfl) ?_
    have hq_21_0 := hO.1
    have hO := hO.2
    refine cx_Vi (As := [.int (m_mode st), .int x1]) (rest := []) C (c_m_get l g st (m_mode st) x1 hq_21_0) (cwV 2 hts (gd_V _ mw830 mw831 mw832 mw3 mw833) rfl rfl rfl yd_yX11_get ⟨Nat.le_of_ble_eq_true rfl, Nat.le_of_ble_eq_true rfl⟩) (va_recv hK hI.1 (ci := 11) (q0 := 0) rfl rfl) hI rfl hl.1 rfl (Nat.le_of_ble_eq_true rfl) dX11_operand_21 (fun H locs hI => ?_)
    exact cx_iret C hI rfl hF dX11_operand_24
  · have hF := hF.trans (if_pos c_3)
    have hO := hO.1 c_3
    refine lv_aload_n hx hb dX11_operand_6 rfl (lv_at hl 0 rfl) ?_
    refine lv_bipush (v := (8 : Int32)) hx hb dX11_operand_7 (by decide) ?_
    refine cx_Vi (As := [.int (8 : Int32)]) (rest := []) C (c_m_ahead l g st (8 : Int32)) (cwV 1 hts (gd_V _ mw769 mw770 mw771 mw3 mw772) rfl rfl rfl yd_yX11_ahead ⟨Nat.le_of_ble_eq_true rfl, Nat.le_of_ble_eq_true rfl⟩) (va_recv hK hI.1 (ci := 11) (q0 := 0) rfl rfl) hI rfl hl.1 rfl (Nat.le_of_ble_eq_true rfl) dX11_operand_9 (fun H locs hI => ?_)
    refine lv_goto (tgt := 24) hx hb dX11_operand_12 (by decide) ?_
    exact cx_iret C hI rfl hF dX11_operand_24
set_option maxHeartbeats 4000000 in
set_option maxRecDepth 100000 in
theorem c_m_operand (l : Launch) (g : Gm) (st : CS) (x1 : Int32) (hO : o_m_operand st x1) : Mi l yX11_operand wq_X11_operand rm_m_operand (gD g) vwCl (mty g) (mw g) (mz g) [.ref (gad g 0), .int x1] st st (m_operand st x1) := by
  intro sz
  refine Met.ofW (cc := cX11_operand) (maxL := 2) (ret := (some .int)) (by decide) rfl ?_
  intro p e s m args below meth c s₁ B hml hv
  obtain ⟨rfl, hsz, hP, hK, hD0, hZ⟩ := hv
  subst hsz
  have hl := lv_entry ([.ref (gad g 0), .int x1]) (n := 2) (Nat.le_of_ble_eq_true rfl)
  rw [lg_entry_eq]
  generalize (lg_sl ([.ref (gad g 0), .int x1]) ++ List.replicate (2 - (lg_sl ([.ref (gad g 0), .int x1])).length) Slot.unset).toArray = ls at hl ⊢
  exact k_m_operand g ⟨B.exec, B.bytes, B.returns, hml, findClass_of_methodNamed B.named, atoms_spec (ws := wq_X11_operand) B.pre, B.notSynchronized, hK, fun q h => Or.inr h, hZ, mz_ok g⟩ st x1 _ _ ls ⟨hP, hD0.self, va_S.rf⟩ hl hO _ rfl
abbrev wq_X11_setSigns : List Cond := .code yX11_setSigns cX11_setSigns 3 none :: wAll
theorem yd_yX11_setSigns : yX11_setSigns.cls = RX11 ∧ yX11_setSigns.cls ≠ "java/lang/invoke/MethodHandle" ∧ yX11_setSigns.cls ≠ "java/lang/invoke/VarHandle" ∧ (parseMethodDescriptor yX11_setSigns.desc).map (fun d => d.parameters.length) = some 1 := by decide +kernel
abbrev rm_m_setSigns : Room := { frames := 1, cells := 0, slots := 0, locals := 20 }
def m_setSigns_b14 (st : CS) (x1 : Int32) (y0 : Int32) : CS := (sI st 1 (((gI st 1) &&& (y0 ^^^ (-1 : Int32))) ||| (x1 &&& y0)))
set_option maxHeartbeats 4000000 in
set_option maxRecDepth 100000 in
theorem k_m_setSigns_b14 {p : Program} {l : Launch} {e : Env} {s : State} {m : MethodId} {args : Array Value} {below : List Frame} {meth : Method} {c : Code} {A : Nat → Prop} (g : Gm) (C : cX p s m args meth c A cX11_setSigns none 3 RX11 wq_X11_setSigns (gD g) vwCl (mty g) (mz g)) (st : CS) (x1 : Int32) (y0 : Int32) (H : Heap) (locs : List Loc) (ls : Array Slot) (hI : cI (gD g) vwCl (mw g) A s st H locs) (hl : lv_has ls 3 [(0, .ref (gad g 0)), (1, .int x1)]) (X : CS) (hF : X = m_setSigns_b14 st x1 y0) : W p l e rm_m_setSigns s m args below meth c H locs 0 0 (MQ below (cQv (gD g) vwCl (mty g) (mw g) A X) args s 0 0 A) (F0 m 14 ls [.int y0]) := by
  obtain ⟨hx, hb, hr, hml, hown, hts, hlocks, hK, hA, hZ, hzo⟩ := id C
  unfold m_setSigns_b14 at hF
  refine lv_istore_n (lv' := [(2, .int y0), (0, .ref (gad g 0)), (1, .int x1)]) hx hb dX11_setSigns_14 rfl hl (by decide) rfl (fun ls hl => ?_)
  refine lv_aload_n hx hb dX11_setSigns_15 rfl (lv_at hl 1 rfl) ?_
  refine lv_aload_n hx hb dX11_setSigns_16 rfl (lv_at hl 1 rfl) ?_
  refine va_get (D := gD g) (ci := 11) (C := RX11) (T := TX11) (N := 50) (v := .int (gI st 1)) hx hb hts (fun w h => List.mem_cons_of_mem _ (isX110 w h)) hown hK hI.1 0 rfl rfl 5 (by decide) (hts _ (List.mem_cons_of_mem _ mw210)) (fun _ h9 => h9) rfl dX11_setSigns_17 ?_
  refine lv_iload_n hx hb dX11_setSigns_20 rfl (lv_at hl 0 rfl) ?_
  refine lv_iconst (v := (-1 : Int32)) hx hb dX11_setSigns_21 (by decide) ?_
  refine lv_ixor hx hb dX11_setSigns_22 ?_
  refine lv_iand hx hb dX11_setSigns_23 ?_
  refine lv_iload_n hx hb dX11_setSigns_24 rfl (lv_at hl 2 rfl) ?_
  refine lv_iload_n hx hb dX11_setSigns_25 rfl (lv_at hl 0 rfl) ?_
  refine lv_iand hx hb dX11_setSigns_26 ?_
  refine lv_ior hx hb dX11_setSigns_27 ?_
  refine va_put (D := gD g) (ci := 11) (C := RX11) (T := TX11) (N := 50) (v := .int (((gI st 1) &&& (y0 ^^^ (-1 : Int32))) ||| (x1 &&& y0))) (ty := .int) hx hb hts (fun w h => List.mem_cons_of_mem _ (isX110 w h)) tyX11 tyX11_ok nmX11 hown hK hI.1 hI.2.1 hI.2.2 0 rfl rfl 5 (by decide) (hts _ (List.mem_cons_of_mem _ mw210)) (fun _ h9 => h9) rfl (by decide +kernel) rfl rfl (Nat.le_of_ble_eq_true rfl) dX11_setSigns_28 (fun H locs hP hD hS => ?_)
  have hI : cI (gD g) vwCl (mw g) A s (sI st 1 (((gI st 1) &&& (y0 ^^^ (-1 : Int32))) ||| (x1 &&& y0))) H locs := ⟨hP, hD, hS⟩
  exact cx_vret C hI hF dX11_setSigns_31
def m_setSigns (st : CS) (x1 : Int32) : CS := (if ((m_mode st) = 0) then (m_setSigns_b14 st x1 (-268435456 : Int32)) else (m_setSigns_b14 st x1 (-67108861 : Int32)))
set_option maxHeartbeats 4000000 in
set_option maxRecDepth 100000 in
theorem k_m_setSigns {p : Program} {l : Launch} {e : Env} {s : State} {m : MethodId} {args : Array Value} {below : List Frame} {meth : Method} {c : Code} {A : Nat → Prop} (g : Gm) (C : cX p s m args meth c A cX11_setSigns none 3 RX11 wq_X11_setSigns (gD g) vwCl (mty g) (mz g)) (st : CS) (x1 : Int32) (H : Heap) (locs : List Loc) (ls : Array Slot) (hI : cI (gD g) vwCl (mw g) A s st H locs) (hl : lv_has ls 3 [(0, .ref (gad g 0)), (1, .int x1)]) (X : CS) (hF : X = m_setSigns st x1) : W p l e rm_m_setSigns s m args below meth c H locs 0 0 (MQ below (cQv (gD g) vwCl (mty g) (mw g) A X) args s 0 0 A) (F0 m 0 ls []) := by
  obtain ⟨hx, hb, hr, hml, hown, hts, hlocks, hK, hA, hZ, hzo⟩ := id C
  unfold m_setSigns at hF
  refine lv_aload_n hx hb dX11_setSigns_0 rfl (lv_at hl 0 rfl) ?_
  refine cx_Vi (As := []) (rest := []) C (c_m_mode l g st ) (cwV 0 hts (gd_V _ mw796 mw797 mw798 mw3 mw799) rfl rfl rfl yd_yX11_mode ⟨Nat.le_of_ble_eq_true rfl, Nat.le_of_ble_eq_true rfl⟩) (va_recv hK hI.1 (ci := 11) (q0 := 0) rfl rfl) hI rfl hl.1 rfl (Nat.le_of_ble_eq_true rfl) dX11_setSigns_1 (fun H locs hI => ?_)
  refine lv_if_ne (tgt := 12) hx hb dX11_setSigns_4 (by decide) (fun c_4 => ?_) (fun c_4 => ?_)
  · have hF := hF.trans (if_neg c_4)
    refine lv_ldc (v := (-67108861 : Int32)) hx hb hown (hts _ (List.mem_cons_of_mem _ mw752)) dX11_setSigns_12 ?_
    exact k_m_setSigns_b14 g C st x1 (-67108861 : Int32) H locs ls hI (lv_sub hl [0, 1] rfl) X hF
  · have hF := hF.trans (if_pos c_4)
    refine lv_ldc (v := (-268435456 : Int32)) hx hb hown (hts _ (List.mem_cons_of_mem _ mw871)) dX11_setSigns_7 ?_
    refine lv_goto (tgt := 14) hx hb dX11_setSigns_9 (by decide) ?_
    exact k_m_setSigns_b14 g C st x1 (-268435456 : Int32) H locs ls hI (lv_sub hl [0, 1] rfl) X hF
set_option maxHeartbeats 4000000 in
set_option maxRecDepth 100000 in
theorem c_m_setSigns (l : Launch) (g : Gm) (st : CS) (x1 : Int32) : Mv l yX11_setSigns wq_X11_setSigns rm_m_setSigns (gD g) vwCl (mty g) (mw g) (mz g) [.ref (gad g 0), .int x1] st (m_setSigns st x1) := by
  intro sz
  refine Met.ofW (cc := cX11_setSigns) (maxL := 3) (ret := none) (by decide) rfl ?_
  intro p e s m args below meth c s₁ B hml hv
  obtain ⟨rfl, hsz, hP, hK, hD0, hZ⟩ := hv
  subst hsz
  have hl := lv_entry ([.ref (gad g 0), .int x1]) (n := 3) (Nat.le_of_ble_eq_true rfl)
  rw [lg_entry_eq]
  generalize (lg_sl ([.ref (gad g 0), .int x1]) ++ List.replicate (3 - (lg_sl ([.ref (gad g 0), .int x1])).length) Slot.unset).toArray = ls at hl ⊢
  exact k_m_setSigns g ⟨B.exec, B.bytes, B.returns, hml, findClass_of_methodNamed B.named, atoms_spec (ws := wq_X11_setSigns) B.pre, B.notSynchronized, hK, fun q h => Or.inr h, hZ, mz_ok g⟩ st x1 _ _ ls ⟨hP, hD0.self, va_S.rf⟩ hl _ rfl
abbrev wq_X11_pageOf : List Cond := .code yX11_pageOf cX11_pageOf 3 (some .int) :: wAll
theorem yd_yX11_pageOf : yX11_pageOf.cls = RX11 ∧ yX11_pageOf.cls ≠ "java/lang/invoke/MethodHandle" ∧ yX11_pageOf.cls ≠ "java/lang/invoke/VarHandle" ∧ (parseMethodDescriptor yX11_pageOf.desc).map (fun d => d.parameters.length) = some 1 := by decide +kernel
abbrev rm_m_pageOf : Room := { frames := 0, cells := 0, slots := 0, locals := 0 }
def m_pageOf_b2 : Nat → CS → Int32 → Int32 → Option (Int32)
  | 0, _, _, _ => none
  | n + 1, st, x1, x2 => (if ((16 : Int32) ≤ x2) then (some (-1 : Int32)) else (if (((gA st 7) x2.toNatClampNeg) = (ushr x1 (12 : Int32))) then (some x2) else (m_pageOf_b2 n st x1 (x2 + (1 : Int32)))))
def o_m_pageOf_b2 : Nat → CS → Int32 → Int32 → Prop
  | 0, _, _, _ => True
  | n + 1, st, x1, x2 => ((((16 : Int32) ≤ x2) → True) ∧ (¬ ((16 : Int32) ≤ x2) → (vp_in x2 16 ∧ (((((gA st 7) x2.toNatClampNeg) = (ushr x1 (12 : Int32))) → True) ∧ (¬ (((gA st 7) x2.toNatClampNeg) = (ushr x1 (12 : Int32))) → (o_m_pageOf_b2 n st x1 (x2 + (1 : Int32))))))))
set_option maxHeartbeats 4000000 in
set_option maxRecDepth 100000 in
theorem k_m_pageOf_b2 {p : Program} {l : Launch} {e : Env} {s : State} {m : MethodId} {args : Array Value} {below : List Frame} {meth : Method} {c : Code} {A : Nat → Prop} (g : Gm) (C : cX p s m args meth c A cX11_pageOf (some .int) 3 RX11 wq_X11_pageOf (gD g) vwCl (mty g) (mz g)) : ∀ (n : Nat) (st : CS) (x1 : Int32) (x2 : Int32) (H : Heap) (locs : List Loc) (ls : Array Slot), cI (gD g) vwCl (mw g) A s st H locs → lv_has ls 3 [(0, .ref (gad g 0)), (1, .int x1), (2, .int x2)] → o_m_pageOf_b2 n st x1 x2 → ∀ (X : Int32), some X = m_pageOf_b2 n st x1 x2 → W p l e rm_m_pageOf s m args below meth c H locs 0 0 (MQ below (cQi (gD g) vwCl (mty g) (mw g) A st X) args s 0 0 A) (F0 m 2 ls []) := by
  obtain ⟨hx, hb, hr, hml, hown, hts, hlocks, hK, hA, hZ, hzo⟩ := id C
  intro n
  induction n with
  | zero => intro st x1 x2 H locs ls hI hl hO X hF; exact absurd hF (by simp [m_pageOf_b2])
  | succ n ih =>
    intro st x1 x2 H locs ls hI hl hO X hF
    rw [m_pageOf_b2] at hF
    rw [o_m_pageOf_b2] at hO
    refine lv_iload_n hx hb dX11_pageOf_2 rfl (lv_at hl 2 rfl) ?_
    refine lv_bipush (v := (16 : Int32)) hx hb dX11_pageOf_3 (by decide) ?_
    refine lv_icmp_ge (tgt := 29) hx hb dX11_pageOf_5 (by decide) (fun c_5 => ?_) (fun c_5 => ?_)
    · have hF := hF.trans (if_pos c_5)
      have hO := hO.1 c_5
      refine lv_iconst (v := (-1 : Int32)) hx hb dX11_pageOf_29 (by decide) ?_
      have hF := Option.some.inj hF
      exact cx_iret C hI rfl hF dX11_pageOf_30
    · have hF := hF.trans (if_neg c_5)
      have hO := hO.2 c_5
      refine lv_aload_n hx hb dX11_pageOf_8 rfl (lv_at hl 0 rfl) ?_
      refine va_get (D := gD g) (ci := 11) (C := RX11) (T := TX11) (N := 50) (v := .ref (gad g 8)) hx hb hts (fun w h => List.mem_cons_of_mem _ (isX110 w h)) hown hK hI.1 0 rfl rfl 12 (by decide) (hts _ (List.mem_cons_of_mem _ mw192)) (fun _ h9 => h9) rfl dX11_pageOf_9 ?_
      refine lv_iload_n hx hb dX11_pageOf_12 rfl (lv_at hl 2 rfl) ?_
      have hq_13_0 := hO.1
      have hO := hO.2
      refine va_iald (f := (gA st 7)) hx hb hK hI.1 8 7 rfl rfl hq_13_0 dX11_pageOf_13 ?_
      refine lv_iload_n hx hb dX11_pageOf_14 rfl (lv_at hl 1 rfl) ?_
      refine lv_bipush (v := (12 : Int32)) hx hb dX11_pageOf_15 (by decide) ?_
      refine lv_iushr (v := (ushr x1 (12 : Int32))) hx hb dX11_pageOf_17 rfl ?_
      refine lv_icmp_ne (tgt := 23) hx hb dX11_pageOf_18 (by decide) (fun c_18 => ?_) (fun c_18 => ?_)
      · have hF := hF.trans (if_neg c_18)
        have hO := hO.2 c_18
        refine lv_iinc (v := (x2 + (1 : Int32))) (lv' := [(2, .int (x2 + (1 : Int32))), (0, .ref (gad g 0)), (1, .int x1)]) hx hb dX11_pageOf_23 hl (k := 2) rfl rfl (by decide) rfl (fun ls hl => ?_)
        refine lv_goto (tgt := 2) hx hb dX11_pageOf_26 (by decide) ?_
        exact ih st x1 (x2 + (1 : Int32)) H locs ls hI (lv_sub hl [1, 2, 0] rfl) hO X hF
      · have hF := hF.trans (if_pos c_18)
        have hO := hO.1 c_18
        refine lv_iload_n hx hb dX11_pageOf_21 rfl (lv_at hl 2 rfl) ?_
        have hF := Option.some.inj hF
        exact cx_iret C hI rfl hF dX11_pageOf_22
def m_pageOf_b2t (st : CS) (x1 : Int32) (x2 : Int32) : Int32 := (m_pageOf_b2 (17) st x1 x2).getD 0
def o_m_pageOf_b2t (st : CS) (x1 : Int32) (x2 : Int32) : Prop := o_m_pageOf_b2 (17) st x1 x2 ∧ ∃ r, m_pageOf_b2 (17) st x1 x2 = some r
set_option maxHeartbeats 4000000 in
set_option maxRecDepth 100000 in
theorem k_m_pageOf_b2t {p : Program} {l : Launch} {e : Env} {s : State} {m : MethodId} {args : Array Value} {below : List Frame} {meth : Method} {c : Code} {A : Nat → Prop} (g : Gm) (C : cX p s m args meth c A cX11_pageOf (some .int) 3 RX11 wq_X11_pageOf (gD g) vwCl (mty g) (mz g)) (st : CS) (x1 : Int32) (x2 : Int32) (H : Heap) (locs : List Loc) (ls : Array Slot) (hI : cI (gD g) vwCl (mw g) A s st H locs) (hl : lv_has ls 3 [(0, .ref (gad g 0)), (1, .int x1), (2, .int x2)]) (hO : o_m_pageOf_b2t st x1 x2) (X : Int32) (hF : X = m_pageOf_b2t st x1 x2) : W p l e rm_m_pageOf s m args below meth c H locs 0 0 (MQ below (cQi (gD g) vwCl (mty g) (mw g) A st X) args s 0 0 A) (F0 m 2 ls []) := by
  refine k_m_pageOf_b2 g C (17) st x1 x2 H locs ls hI hl hO.1 X ?_
  rw [hF]
  exact some_getD hO.2
def m_pageOf (st : CS) (x1 : Int32) : Int32 := (m_pageOf_b2t st x1 (0 : Int32))
def o_m_pageOf (st : CS) (x1 : Int32) : Prop := (o_m_pageOf_b2t st x1 (0 : Int32))
set_option maxHeartbeats 4000000 in
set_option maxRecDepth 100000 in
theorem k_m_pageOf {p : Program} {l : Launch} {e : Env} {s : State} {m : MethodId} {args : Array Value} {below : List Frame} {meth : Method} {c : Code} {A : Nat → Prop} (g : Gm) (C : cX p s m args meth c A cX11_pageOf (some .int) 3 RX11 wq_X11_pageOf (gD g) vwCl (mty g) (mz g)) (st : CS) (x1 : Int32) (H : Heap) (locs : List Loc) (ls : Array Slot) (hI : cI (gD g) vwCl (mw g) A s st H locs) (hl : lv_has ls 3 [(0, .ref (gad g 0)), (1, .int x1)]) (hO : o_m_pageOf st x1) (X : Int32) (hF : X = m_pageOf st x1) : W p l e rm_m_pageOf s m args below meth c H locs 0 0 (MQ below (cQi (gD g) vwCl (mty g) (mw g) A st X) args s 0 0 A) (F0 m 0 ls []) := by
  obtain ⟨hx, hb, hr, hml, hown, hts, hlocks, hK, hA, hZ, hzo⟩ := id C
  unfold m_pageOf at hF
  unfold o_m_pageOf at hO
  refine lv_iconst (v := (0 : Int32)) hx hb dX11_pageOf_0 (by decide) ?_
  refine lv_istore_n (lv' := [(2, .int (0 : Int32)), (0, .ref (gad g 0)), (1, .int x1)]) hx hb dX11_pageOf_1 rfl hl (by decide) rfl (fun ls hl => ?_)
  exact k_m_pageOf_b2t g C st x1 (0 : Int32) H locs ls hI (lv_sub hl [1, 2, 0] rfl) hO X hF
set_option maxHeartbeats 4000000 in
set_option maxRecDepth 100000 in
theorem c_m_pageOf (l : Launch) (g : Gm) (st : CS) (x1 : Int32) (hO : o_m_pageOf st x1) : Mi l yX11_pageOf wq_X11_pageOf rm_m_pageOf (gD g) vwCl (mty g) (mw g) (mz g) [.ref (gad g 0), .int x1] st st (m_pageOf st x1) := by
  intro sz
  refine Met.ofW (cc := cX11_pageOf) (maxL := 3) (ret := (some .int)) (by decide) rfl ?_
  intro p e s m args below meth c s₁ B hml hv
  obtain ⟨rfl, hsz, hP, hK, hD0, hZ⟩ := hv
  subst hsz
  have hl := lv_entry ([.ref (gad g 0), .int x1]) (n := 3) (Nat.le_of_ble_eq_true rfl)
  rw [lg_entry_eq]
  generalize (lg_sl ([.ref (gad g 0), .int x1]) ++ List.replicate (3 - (lg_sl ([.ref (gad g 0), .int x1])).length) Slot.unset).toArray = ls at hl ⊢
  exact k_m_pageOf g ⟨B.exec, B.bytes, B.returns, hml, findClass_of_methodNamed B.named, atoms_spec (ws := wq_X11_pageOf) B.pre, B.notSynchronized, hK, fun q h => Or.inr h, hZ, mz_ok g⟩ st x1 _ _ ls ⟨hP, hD0.self, va_S.rf⟩ hl hO _ rfl
abbrev wq_X11_may : List Cond := .code yX11_may cX11_may 5 (some .boolean) :: wAll
theorem yd_yX11_may : yX11_may.cls = RX11 ∧ yX11_may.cls ≠ "java/lang/invoke/MethodHandle" ∧ yX11_may.cls ≠ "java/lang/invoke/VarHandle" ∧ (parseMethodDescriptor yX11_may.desc).map (fun d => d.parameters.length) = some 3 := by decide +kernel
abbrev rm_m_may : Room := { frames := 1, cells := 0, slots := 0, locals := 22 }
def m_may_b70 (st : CS) : Int32 := (1 : Int32)
set_option maxHeartbeats 4000000 in
set_option maxRecDepth 100000 in
theorem k_m_may_b70 {p : Program} {l : Launch} {e : Env} {s : State} {m : MethodId} {args : Array Value} {below : List Frame} {meth : Method} {c : Code} {A : Nat → Prop} (g : Gm) (C : cX p s m args meth c A cX11_may (some .boolean) 5 RX11 wq_X11_may (gD g) vwCl (mty g) (mz g)) (st : CS) (H : Heap) (locs : List Loc) (ls : Array Slot) (hI : cI (gD g) vwCl (mw g) A s st H locs) (hl : lv_has ls 5 [(0, .ref (gad g 0))]) (X : Int32) (hF : X = m_may_b70 st ) : W p l e rm_m_may s m args below meth c H locs 0 0 (MQ below (cQi (gD g) vwCl (mty g) (mw g) A st X) args s 0 0 A) (F0 m 70 ls []) := by
  obtain ⟨hx, hb, hr, hml, hown, hts, hlocks, hK, hA, hZ, hzo⟩ := id C
  unfold m_may_b70 at hF
  refine lv_iconst (v := (1 : Int32)) hx hb dX11_may_70 (by decide) ?_
  refine lv_goto (tgt := 75) hx hb dX11_may_71 (by decide) ?_
  exact cx_zret C hI rfl hF rfl dX11_may_75
def m_may (st : CS) (x1 : Int32) (x2 : Int32) (x3 : Int32) : Int32 := (if (x2 < (33554432 : Int32)) then (if ((m_pageOf st x2) = (-1 : Int32)) then (0 : Int32) else (if (x1 = 0) then (if (((gA st 8) (m_pageOf st x2).toNatClampNeg) = 0) then (1 : Int32) else (if (((gA st 8) (m_pageOf st x2).toNatClampNeg) = (1 : Int32)) then (if (x3 = 0) then (m_may_b70 st ) else (if ((gI st 8) = (1 : Int32)) then (m_may_b70 st ) else (0 : Int32))) else (if (x3 = 0) then (if ((gI st 8) = (1 : Int32)) then (1 : Int32) else (0 : Int32)) else (0 : Int32)))) else (1 : Int32))) else (if (x1 = 0) then (0 : Int32) else (1 : Int32)))
def o_m_may (st : CS) (x1 : Int32) (x2 : Int32) (x3 : Int32) : Prop := (((x2 < (33554432 : Int32)) → ((o_m_pageOf st x2) ∧ ((((m_pageOf st x2) = (-1 : Int32)) → True) ∧ (¬ ((m_pageOf st x2) = (-1 : Int32)) → (((x1 = 0) → (vp_in (m_pageOf st x2) 16 ∧ (((((gA st 8) (m_pageOf st x2).toNatClampNeg) = 0) → True) ∧ (¬ (((gA st 8) (m_pageOf st x2).toNatClampNeg) = 0) → (vp_in (m_pageOf st x2) 16 ∧ True))))) ∧ (¬ (x1 = 0) → True)))))) ∧ (¬ (x2 < (33554432 : Int32)) → True))
set_option maxHeartbeats 4000000 in
set_option maxRecDepth 100000 in
theorem k_m_may {p : Program} {l : Launch} {e : Env} {s : State} {m : MethodId} {args : Array Value} {below : List Frame} {meth : Method} {c : Code} {A : Nat → Prop} (g : Gm) (C : cX p s m args meth c A cX11_may (some .boolean) 5 RX11 wq_X11_may (gD g) vwCl (mty g) (mz g)) (st : CS) (x1 : Int32) (x2 : Int32) (x3 : Int32) (H : Heap) (locs : List Loc) (ls : Array Slot) (hI : cI (gD g) vwCl (mw g) A s st H locs) (hl : lv_has ls 5 [(0, .ref (gad g 0)), (1, .int x1), (2, .int x2), (3, .int x3)]) (hO : o_m_may st x1 x2 x3) (X : Int32) (hF : X = m_may st x1 x2 x3) : W p l e rm_m_may s m args below meth c H locs 0 0 (MQ below (cQi (gD g) vwCl (mty g) (mw g) A st X) args s 0 0 A) (F0 m 0 ls []) := by
  obtain ⟨hx, hb, hr, hml, hown, hts, hlocks, hK, hA, hZ, hzo⟩ := id C
  unfold m_may at hF
  unfold o_m_may at hO
  refine lv_iload_n hx hb dX11_may_0 rfl (lv_at hl 2 rfl) ?_
  refine lv_ldc (v := (33554432 : Int32)) hx hb hown (hts _ (List.mem_cons_of_mem _ mw804)) dX11_may_1 ?_
  refine lv_icmp_lt (tgt := 16) hx hb dX11_may_3 (by decide) (fun c_3 => ?_) (fun c_3 => ?_)
  · have hF := hF.trans (if_pos c_3)
    have hO := hO.1 c_3
    refine lv_aload_n hx hb dX11_may_16 rfl (lv_at hl 0 rfl) ?_
    refine lv_iload_n hx hb dX11_may_17 rfl (lv_at hl 2 rfl) ?_
    have hq_18_0 := hO.1
    have hO := hO.2
    refine cx_Vi (As := [.int x2]) (rest := []) C (c_m_pageOf l g st x2 hq_18_0) (cwV 1 hts (gd_V _ mw805 mw806 mw807 mw3 mw808) rfl rfl rfl yd_yX11_pageOf ⟨Nat.le_of_ble_eq_true rfl, Nat.le_of_ble_eq_true rfl⟩) (va_recv hK hI.1 (ci := 11) (q0 := 0) rfl rfl) hI rfl hl.1 rfl (Nat.le_of_ble_eq_true rfl) dX11_may_18 (fun H locs hI => ?_)
    refine lv_istore (lv' := [(4, .int (m_pageOf st x2)), (0, .ref (gad g 0)), (1, .int x1), (2, .int x2), (3, .int x3)]) hx hb dX11_may_21 hl (by decide) rfl (fun ls hl => ?_)
    refine lv_iload hx hb dX11_may_23 (lv_at hl 0 rfl) ?_
    refine lv_iconst (v := (-1 : Int32)) hx hb dX11_may_25 (by decide) ?_
    refine lv_icmp_ne (tgt := 31) hx hb dX11_may_26 (by decide) (fun c_26 => ?_) (fun c_26 => ?_)
    · have hF := hF.trans (if_neg c_26)
      have hO := hO.2 c_26
      refine lv_iload_n hx hb dX11_may_31 rfl (lv_at hl 2 rfl) ?_
      refine lv_if_ne (tgt := 45) hx hb dX11_may_32 (by decide) (fun c_32 => ?_) (fun c_32 => ?_)
      · have hF := hF.trans (if_neg c_32)
        have hO := hO.2 c_32
        refine lv_iconst (v := (1 : Int32)) hx hb dX11_may_45 (by decide) ?_
        exact cx_zret C hI rfl hF rfl dX11_may_46
      · have hF := hF.trans (if_pos c_32)
        have hO := hO.1 c_32
        refine lv_aload_n hx hb dX11_may_35 rfl (lv_at hl 1 rfl) ?_
        refine va_get (D := gD g) (ci := 11) (C := RX11) (T := TX11) (N := 50) (v := .ref (gad g 9)) hx hb hts (fun w h => List.mem_cons_of_mem _ (isX110 w h)) hown hK hI.1 0 rfl rfl 13 (by decide) (hts _ (List.mem_cons_of_mem _ mw193)) (fun _ h9 => h9) rfl dX11_may_36 ?_
        refine lv_iload hx hb dX11_may_39 (lv_at hl 0 rfl) ?_
        have hq_41_0 := hO.1
        have hO := hO.2
        refine va_iald (f := (gA st 8)) hx hb hK hI.1 9 8 rfl rfl hq_41_0 dX11_may_41 ?_
        refine lv_if_ne (tgt := 47) hx hb dX11_may_42 (by decide) (fun c_42 => ?_) (fun c_42 => ?_)
        · have hF := hF.trans (if_neg c_42)
          have hO := hO.2 c_42
          refine lv_aload_n hx hb dX11_may_47 rfl (lv_at hl 1 rfl) ?_
          refine va_get (D := gD g) (ci := 11) (C := RX11) (T := TX11) (N := 50) (v := .ref (gad g 9)) hx hb hts (fun w h => List.mem_cons_of_mem _ (isX110 w h)) hown hK hI.1 0 rfl rfl 13 (by decide) (hts _ (List.mem_cons_of_mem _ mw193)) (fun _ h9 => h9) rfl dX11_may_48 ?_
          refine lv_iload hx hb dX11_may_51 (lv_at hl 0 rfl) ?_
          have hq_53_0 := hO.1
          have hO := hO.2
          refine va_iald (f := (gA st 8)) hx hb hK hI.1 9 8 rfl rfl hq_53_0 dX11_may_53 ?_
          refine lv_iconst (v := (1 : Int32)) hx hb dX11_may_54 (by decide) ?_
          refine lv_icmp_ne (tgt := 76) hx hb dX11_may_55 (by decide) (fun c_55 => ?_) (fun c_55 => ?_)
          · have hF := hF.trans (if_neg c_55)
            refine lv_iload_n hx hb dX11_may_76 rfl (lv_at hl 4 rfl) ?_
            refine lv_if_ne (tgt := 92) hx hb dX11_may_77 (by decide) (fun c_77 => ?_) (fun c_77 => ?_)
            · have hF := hF.trans (if_neg c_77)
              refine lv_iconst (v := (0 : Int32)) hx hb dX11_may_92 (by decide) ?_
              exact cx_zret C hI rfl hF rfl dX11_may_93
            · have hF := hF.trans (if_pos c_77)
              refine lv_aload_n hx hb dX11_may_80 rfl (lv_at hl 1 rfl) ?_
              refine va_get (D := gD g) (ci := 11) (C := RX11) (T := TX11) (N := 50) (v := .int (gI st 8)) hx hb hts (fun w h => List.mem_cons_of_mem _ (isX110 w h)) hown hK hI.1 0 rfl rfl 18 (by decide) (hts _ (List.mem_cons_of_mem _ mw214)) (fun _ h9 => h9) rfl dX11_may_81 ?_
              refine lv_iconst (v := (1 : Int32)) hx hb dX11_may_84 (by decide) ?_
              refine lv_icmp_ne (tgt := 92) hx hb dX11_may_85 (by decide) (fun c_85 => ?_) (fun c_85 => ?_)
              · have hF := hF.trans (if_neg c_85)
                refine lv_iconst (v := (0 : Int32)) hx hb dX11_may_92 (by decide) ?_
                exact cx_zret C hI rfl hF rfl dX11_may_93
              · have hF := hF.trans (if_pos c_85)
                refine lv_iconst (v := (1 : Int32)) hx hb dX11_may_88 (by decide) ?_
                refine lv_goto (tgt := 93) hx hb dX11_may_89 (by decide) ?_
                exact cx_zret C hI rfl hF rfl dX11_may_93
          · have hF := hF.trans (if_pos c_55)
            refine lv_iload_n hx hb dX11_may_58 rfl (lv_at hl 4 rfl) ?_
            refine lv_if_eq (tgt := 70) hx hb dX11_may_59 (by decide) (fun c_59 => ?_) (fun c_59 => ?_)
            · have hF := hF.trans (if_pos c_59)
              exact k_m_may_b70 g C st  H locs ls hI (lv_sub hl [1] rfl) X hF
            · have hF := hF.trans (if_neg c_59)
              refine lv_aload_n hx hb dX11_may_62 rfl (lv_at hl 1 rfl) ?_
              refine va_get (D := gD g) (ci := 11) (C := RX11) (T := TX11) (N := 50) (v := .int (gI st 8)) hx hb hts (fun w h => List.mem_cons_of_mem _ (isX110 w h)) hown hK hI.1 0 rfl rfl 18 (by decide) (hts _ (List.mem_cons_of_mem _ mw214)) (fun _ h9 => h9) rfl dX11_may_63 ?_
              refine lv_iconst (v := (1 : Int32)) hx hb dX11_may_66 (by decide) ?_
              refine lv_icmp_ne (tgt := 74) hx hb dX11_may_67 (by decide) (fun c_67 => ?_) (fun c_67 => ?_)
              · have hF := hF.trans (if_neg c_67)
                refine lv_iconst (v := (0 : Int32)) hx hb dX11_may_74 (by decide) ?_
                exact cx_zret C hI rfl hF rfl dX11_may_75
              · have hF := hF.trans (if_pos c_67)
                exact k_m_may_b70 g C st  H locs ls hI (lv_sub hl [1] rfl) X hF
        · have hF := hF.trans (if_pos c_42)
          have hO := hO.1 c_42
          refine lv_iconst (v := (1 : Int32)) hx hb dX11_may_45 (by decide) ?_
          exact cx_zret C hI rfl hF rfl dX11_may_46
    · have hF := hF.trans (if_pos c_26)
      have hO := hO.1 c_26
      refine lv_iconst (v := (0 : Int32)) hx hb dX11_may_29 (by decide) ?_
      exact cx_zret C hI rfl hF rfl dX11_may_30
  · have hF := hF.trans (if_neg c_3)
    have hO := hO.2 c_3
    refine lv_iload_n hx hb dX11_may_6 rfl (lv_at hl 1 rfl) ?_
    refine lv_if_eq (tgt := 14) hx hb dX11_may_7 (by decide) (fun c_7 => ?_) (fun c_7 => ?_)
    · have hF := hF.trans (if_pos c_7)
      refine lv_iconst (v := (0 : Int32)) hx hb dX11_may_14 (by decide) ?_
      exact cx_zret C hI rfl hF rfl dX11_may_15
    · have hF := hF.trans (if_neg c_7)
      refine lv_iconst (v := (1 : Int32)) hx hb dX11_may_10 (by decide) ?_
      refine lv_goto (tgt := 15) hx hb dX11_may_11 (by decide) ?_
      exact cx_zret C hI rfl hF rfl dX11_may_15
set_option maxHeartbeats 4000000 in
set_option maxRecDepth 100000 in
theorem c_m_may (l : Launch) (g : Gm) (st : CS) (x1 : Int32) (x2 : Int32) (x3 : Int32) (hO : o_m_may st x1 x2 x3) : Mi l yX11_may wq_X11_may rm_m_may (gD g) vwCl (mty g) (mw g) (mz g) [.ref (gad g 0), .int x1, .int x2, .int x3] st st (m_may st x1 x2 x3) := by
  intro sz
  refine Met.ofW (cc := cX11_may) (maxL := 5) (ret := (some .boolean)) (by decide) rfl ?_
  intro p e s m args below meth c s₁ B hml hv
  obtain ⟨rfl, hsz, hP, hK, hD0, hZ⟩ := hv
  subst hsz
  have hl := lv_entry ([.ref (gad g 0), .int x1, .int x2, .int x3]) (n := 5) (Nat.le_of_ble_eq_true rfl)
  rw [lg_entry_eq]
  generalize (lg_sl ([.ref (gad g 0), .int x1, .int x2, .int x3]) ++ List.replicate (5 - (lg_sl ([.ref (gad g 0), .int x1, .int x2, .int x3])).length) Slot.unset).toArray = ls at hl ⊢
  exact k_m_may g ⟨B.exec, B.bytes, B.returns, hml, findClass_of_methodNamed B.named, atoms_spec (ws := wq_X11_may) B.pre, B.notSynchronized, hK, fun q h => Or.inr h, hZ, mz_ok g⟩ st x1 x2 x3 _ _ ls ⟨hP, hD0.self, va_S.rf⟩ hl hO _ rfl
abbrev wq_X11_wordAt : List Cond := .code yX11_wordAt cX11_wordAt 2 (some .int) :: wAll
theorem yd_yX11_wordAt : yX11_wordAt.cls = RX11 ∧ yX11_wordAt.cls ≠ "java/lang/invoke/MethodHandle" ∧ yX11_wordAt.cls ≠ "java/lang/invoke/VarHandle" ∧ (parseMethodDescriptor yX11_wordAt.desc).map (fun d => d.parameters.length) = some 1 := by decide +kernel
abbrev rm_m_wordAt : Room := { frames := 1, cells := 0, slots := 0, locals := 22 }
def m_wordAt (st : CS) (x1 : Int32) : Int32 := (if (x1 < (50331648 : Int32)) then (if (x1 < (33554432 : Int32)) then (((1024 : Int32) * (m_pageOf st x1)) + ((ushr x1 (2 : Int32)) &&& (1023 : Int32))) else ((ushr x1 (2 : Int32)) &&& (16383 : Int32))) else (-1 : Int32))
def o_m_wordAt (st : CS) (x1 : Int32) : Prop := (((x1 < (50331648 : Int32)) → (((x1 < (33554432 : Int32)) → ((o_m_pageOf st x1) ∧ True)) ∧ (¬ (x1 < (33554432 : Int32)) → True))) ∧ (¬ (x1 < (50331648 : Int32)) → True))
set_option maxHeartbeats 4000000 in
set_option maxRecDepth 100000 in
theorem k_m_wordAt {p : Program} {l : Launch} {e : Env} {s : State} {m : MethodId} {args : Array Value} {below : List Frame} {meth : Method} {c : Code} {A : Nat → Prop} (g : Gm) (C : cX p s m args meth c A cX11_wordAt (some .int) 2 RX11 wq_X11_wordAt (gD g) vwCl (mty g) (mz g)) (st : CS) (x1 : Int32) (H : Heap) (locs : List Loc) (ls : Array Slot) (hI : cI (gD g) vwCl (mw g) A s st H locs) (hl : lv_has ls 2 [(0, .ref (gad g 0)), (1, .int x1)]) (hO : o_m_wordAt st x1) (X : Int32) (hF : X = m_wordAt st x1) : W p l e rm_m_wordAt s m args below meth c H locs 0 0 (MQ below (cQi (gD g) vwCl (mty g) (mw g) A st X) args s 0 0 A) (F0 m 0 ls []) := by
  obtain ⟨hx, hb, hr, hml, hown, hts, hlocks, hK, hA, hZ, hzo⟩ := id C
  unfold m_wordAt at hF
  unfold o_m_wordAt at hO
  refine lv_iload_n hx hb dX11_wordAt_0 rfl (lv_at hl 1 rfl) ?_
  refine lv_ldc (v := (50331648 : Int32)) hx hb hown (hts _ (List.mem_cons_of_mem _ mw813)) dX11_wordAt_1 ?_
  refine lv_icmp_lt (tgt := 8) hx hb dX11_wordAt_3 (by decide) (fun c_3 => ?_) (fun c_3 => ?_)
  · have hF := hF.trans (if_pos c_3)
    have hO := hO.1 c_3
    refine lv_iload_n hx hb dX11_wordAt_8 rfl (lv_at hl 1 rfl) ?_
    refine lv_ldc (v := (33554432 : Int32)) hx hb hown (hts _ (List.mem_cons_of_mem _ mw804)) dX11_wordAt_9 ?_
    refine lv_icmp_lt (tgt := 22) hx hb dX11_wordAt_11 (by decide) (fun c_11 => ?_) (fun c_11 => ?_)
    · have hF := hF.trans (if_pos c_11)
      have hO := hO.1 c_11
      refine lv_sipush (v := (1024 : Int32)) hx hb dX11_wordAt_22 (by decide) ?_
      refine lv_aload_n hx hb dX11_wordAt_25 rfl (lv_at hl 0 rfl) ?_
      refine lv_iload_n hx hb dX11_wordAt_26 rfl (lv_at hl 1 rfl) ?_
      have hq_27_0 := hO.1
      have hO := hO.2
      refine cx_Vi (As := [.int x1]) (rest := [.int (1024 : Int32)]) C (c_m_pageOf l g st x1 hq_27_0) (cwV 1 hts (gd_V _ mw805 mw806 mw807 mw3 mw808) rfl rfl rfl yd_yX11_pageOf ⟨Nat.le_of_ble_eq_true rfl, Nat.le_of_ble_eq_true rfl⟩) (va_recv hK hI.1 (ci := 11) (q0 := 0) rfl rfl) hI rfl hl.1 rfl (Nat.le_of_ble_eq_true rfl) dX11_wordAt_27 (fun H locs hI => ?_)
      refine lv_imul hx hb dX11_wordAt_30 ?_
      refine lv_iload_n hx hb dX11_wordAt_31 rfl (lv_at hl 1 rfl) ?_
      refine lv_iconst (v := (2 : Int32)) hx hb dX11_wordAt_32 (by decide) ?_
      refine lv_iushr (v := (ushr x1 (2 : Int32))) hx hb dX11_wordAt_33 rfl ?_
      refine lv_sipush (v := (1023 : Int32)) hx hb dX11_wordAt_34 (by decide) ?_
      refine lv_iand hx hb dX11_wordAt_37 ?_
      refine lv_iadd hx hb dX11_wordAt_38 ?_
      exact cx_iret C hI rfl hF dX11_wordAt_39
    · have hF := hF.trans (if_neg c_11)
      have hO := hO.2 c_11
      refine lv_iload_n hx hb dX11_wordAt_14 rfl (lv_at hl 1 rfl) ?_
      refine lv_iconst (v := (2 : Int32)) hx hb dX11_wordAt_15 (by decide) ?_
      refine lv_iushr (v := (ushr x1 (2 : Int32))) hx hb dX11_wordAt_16 rfl ?_
      refine lv_sipush (v := (16383 : Int32)) hx hb dX11_wordAt_17 (by decide) ?_
      refine lv_iand hx hb dX11_wordAt_20 ?_
      exact cx_iret C hI rfl hF dX11_wordAt_21
  · have hF := hF.trans (if_neg c_3)
    have hO := hO.2 c_3
    refine lv_iconst (v := (-1 : Int32)) hx hb dX11_wordAt_6 (by decide) ?_
    exact cx_iret C hI rfl hF dX11_wordAt_7
set_option maxHeartbeats 4000000 in
set_option maxRecDepth 100000 in
theorem c_m_wordAt (l : Launch) (g : Gm) (st : CS) (x1 : Int32) (hO : o_m_wordAt st x1) : Mi l yX11_wordAt wq_X11_wordAt rm_m_wordAt (gD g) vwCl (mty g) (mw g) (mz g) [.ref (gad g 0), .int x1] st st (m_wordAt st x1) := by
  intro sz
  refine Met.ofW (cc := cX11_wordAt) (maxL := 2) (ret := (some .int)) (by decide) rfl ?_
  intro p e s m args below meth c s₁ B hml hv
  obtain ⟨rfl, hsz, hP, hK, hD0, hZ⟩ := hv
  subst hsz
  have hl := lv_entry ([.ref (gad g 0), .int x1]) (n := 2) (Nat.le_of_ble_eq_true rfl)
  rw [lg_entry_eq]
  generalize (lg_sl ([.ref (gad g 0), .int x1]) ++ List.replicate (2 - (lg_sl ([.ref (gad g 0), .int x1])).length) Slot.unset).toArray = ls at hl ⊢
  exact k_m_wordAt g ⟨B.exec, B.bytes, B.returns, hml, findClass_of_methodNamed B.named, atoms_spec (ws := wq_X11_wordAt) B.pre, B.notSynchronized, hK, fun q h => Or.inr h, hZ, mz_ok g⟩ st x1 _ _ ls ⟨hP, hD0.self, va_S.rf⟩ hl hO _ rfl
