abbrev wq_X11_many : List Cond := .code yX11_many cX11_many 21 (some .int) :: wAll
theorem yd_yX11_many : yX11_many.cls = RX11 ∧ yX11_many.cls ≠ "java/lang/invoke/MethodHandle" ∧ yX11_many.cls ≠ "java/lang/invoke/VarHandle" ∧ (parseMethodDescriptor yX11_many.desc).map (fun d => d.parameters.length) = some 1 := by decide +kernel
abbrev rm_m_many : Room := { frames := 3, cells := 0, slots := 0, locals := 69 }
def m_many_b630 (st : CS) (x2 : Int32) (x8 : Int32) (x9 : Int32) : CS × Int32 := (if (x8 = 0) then (st, (((2 : Int32) + x2) + (0 : Int32))) else (if (x9 = 0) then (st, (((2 : Int32) + x2) + (0 : Int32))) else (st, (((2 : Int32) + x2) + (3 : Int32)))))
set_option maxHeartbeats 4000000 in
set_option maxRecDepth 100000 in
theorem k_m_many_b630 {p : Program} {l : Launch} {e : Env} {s : State} {m : MethodId} {args : Array Value} {below : List Frame} {meth : Method} {c : Code} {A : Nat → Prop} (g : Gm) (C : cX p s m args meth c A cX11_many (some .int) 21 RX11 wq_X11_many (gD g) vwCl (mty g) (mz g)) (st : CS) (x2 : Int32) (x8 : Int32) (x9 : Int32) (H : Heap) (locs : List Loc) (ls : Array Slot) (hI : cI (gD g) vwCl (mw g) A s st H locs) (hl : lv_has ls 21 [(0, .ref (gad g 0)), (2, .int x2), (8, .int x8), (9, .int x9)]) (X : CS × Int32) (hF : X = m_many_b630 st x2 x8 x9) : W p l e rm_m_many s m args below meth c H locs 0 0 (MQ below (cQi (gD g) vwCl (mty g) (mw g) A X.1 X.2) args s 0 0 A) (F0 m 630 ls []) := by
  obtain ⟨hx, hb, hr, hml, hown, hts, hlocks, hK, hA, hZ, hzo⟩ := id C
  unfold m_many_b630 at hF
  refine lv_iconst (v := (2 : Int32)) hx hb dX11_many_630 (by decide) ?_
  refine lv_iload_n hx hb dX11_many_631 rfl (lv_at hl 1 rfl) ?_
  refine lv_iadd hx hb dX11_many_632 ?_
  refine lv_iload hx hb dX11_many_633 (lv_at hl 2 rfl) ?_
  refine lv_if_eq (tgt := 647) hx hb dX11_many_635 (by decide) (fun c_635 => ?_) (fun c_635 => ?_)
  · have hF := hF.trans (if_pos c_635)
    refine lv_iconst (v := (0 : Int32)) hx hb dX11_many_647 (by decide) ?_
    refine lv_iadd hx hb dX11_many_648 ?_
    exact cx_iret C hI (congrArg Prod.fst hF) (congrArg Prod.snd hF) dX11_many_649
  · have hF := hF.trans (if_neg c_635)
    refine lv_iload hx hb dX11_many_638 (lv_at hl 3 rfl) ?_
    refine lv_if_eq (tgt := 647) hx hb dX11_many_640 (by decide) (fun c_640 => ?_) (fun c_640 => ?_)
    · have hF := hF.trans (if_pos c_640)
      refine lv_iconst (v := (0 : Int32)) hx hb dX11_many_647 (by decide) ?_
      refine lv_iadd hx hb dX11_many_648 ?_
      exact cx_iret C hI (congrArg Prod.fst hF) (congrArg Prod.snd hF) dX11_many_649
    · have hF := hF.trans (if_neg c_640)
      refine lv_iconst (v := (3 : Int32)) hx hb dX11_many_643 (by decide) ?_
      refine lv_goto (tgt := 648) hx hb dX11_many_644 (by decide) ?_
      refine lv_iadd hx hb dX11_many_648 ?_
      exact cx_iret C hI (congrArg Prod.fst hF) (congrArg Prod.snd hF) dX11_many_649
def m_many_b603 (rec : CS → Int32 → Int32 → Int32 → Int32 → Int32 → Int32 → Int32 → Int32 → Int32 → Int32 → Int32 → Int32 → Int32 → Int32 → Option (CS × Int32)) (st : CS) (x1 : Int32) (x2 : Int32) (x3 : Int32) (x6 : Int32) (x8 : Int32) (x9 : Int32) (x10 : Int32) (x11 : Int32) (x12 : Int32) (x13 : Int32) (x14 : Int32) (x15 : Int32) (x16 : Int32) (x17 : Int32) : Option (CS × Int32) := (rec st x1 x2 x3 x6 x8 x9 x10 x11 x12 x13 x14 x15 x16 (x17 + (1 : Int32)))
def o_m_many_b603 (orec : CS → Int32 → Int32 → Int32 → Int32 → Int32 → Int32 → Int32 → Int32 → Int32 → Int32 → Int32 → Int32 → Int32 → Int32 → Prop) (st : CS) (x1 : Int32) (x2 : Int32) (x3 : Int32) (x6 : Int32) (x8 : Int32) (x9 : Int32) (x10 : Int32) (x11 : Int32) (x12 : Int32) (x13 : Int32) (x14 : Int32) (x15 : Int32) (x16 : Int32) (x17 : Int32) : Prop := (orec st x1 x2 x3 x6 x8 x9 x10 x11 x12 x13 x14 x15 x16 (x17 + (1 : Int32)))
set_option maxHeartbeats 4000000 in
set_option maxRecDepth 100000 in
theorem k_m_many_b603 {p : Program} {l : Launch} {e : Env} {s : State} {m : MethodId} {args : Array Value} {below : List Frame} {meth : Method} {c : Code} {A : Nat → Prop} (g : Gm) (C : cX p s m args meth c A cX11_many (some .int) 21 RX11 wq_X11_many (gD g) vwCl (mty g) (mz g)) (rec : CS → Int32 → Int32 → Int32 → Int32 → Int32 → Int32 → Int32 → Int32 → Int32 → Int32 → Int32 → Int32 → Int32 → Int32 → Option (CS × Int32)) (orec : CS → Int32 → Int32 → Int32 → Int32 → Int32 → Int32 → Int32 → Int32 → Int32 → Int32 → Int32 → Int32 → Int32 → Int32 → Prop) (hrec : ∀ (st : CS) (x1 : Int32) (x2 : Int32) (x3 : Int32) (x6 : Int32) (x8 : Int32) (x9 : Int32) (x10 : Int32) (x11 : Int32) (x12 : Int32) (x13 : Int32) (x14 : Int32) (x15 : Int32) (x16 : Int32) (x17 : Int32) (H : Heap) (locs : List Loc) (ls : Array Slot), cI (gD g) vwCl (mw g) A s st H locs → lv_has ls 21 [(0, .ref (gad g 0)), (1, .int x1), (2, .int x2), (3, .int x3), (6, .int x6), (8, .int x8), (9, .int x9), (10, .int x10), (11, .int x11), (12, .int x12), (13, .int x13), (14, .int x14), (15, .int x15), (16, .int x16), (17, .int x17)] → orec st x1 x2 x3 x6 x8 x9 x10 x11 x12 x13 x14 x15 x16 x17 → ∀ (X : CS × Int32), some X = rec st x1 x2 x3 x6 x8 x9 x10 x11 x12 x13 x14 x15 x16 x17 → W p l e rm_m_many s m args below meth c H locs 0 0 (MQ below (cQi (gD g) vwCl (mty g) (mw g) A X.1 X.2) args s 0 0 A) (F0 m 376 ls [])) (st : CS) (x1 : Int32) (x2 : Int32) (x3 : Int32) (x6 : Int32) (x8 : Int32) (x9 : Int32) (x10 : Int32) (x11 : Int32) (x12 : Int32) (x13 : Int32) (x14 : Int32) (x15 : Int32) (x16 : Int32) (x17 : Int32) (H : Heap) (locs : List Loc) (ls : Array Slot) (hI : cI (gD g) vwCl (mw g) A s st H locs) (hl : lv_has ls 21 [(0, .ref (gad g 0)), (1, .int x1), (2, .int x2), (3, .int x3), (6, .int x6), (8, .int x8), (9, .int x9), (10, .int x10), (11, .int x11), (12, .int x12), (13, .int x13), (14, .int x14), (15, .int x15), (16, .int x16), (17, .int x17)]) (hO : o_m_many_b603 orec st x1 x2 x3 x6 x8 x9 x10 x11 x12 x13 x14 x15 x16 x17) (X : CS × Int32) (hF : some X = m_many_b603 rec st x1 x2 x3 x6 x8 x9 x10 x11 x12 x13 x14 x15 x16 x17) : W p l e rm_m_many s m args below meth c H locs 0 0 (MQ below (cQi (gD g) vwCl (mty g) (mw g) A X.1 X.2) args s 0 0 A) (F0 m 603 ls []) := by
  obtain ⟨hx, hb, hr, hml, hown, hts, hlocks, hK, hA, hZ, hzo⟩ := id C
  unfold m_many_b603 at hF
  unfold o_m_many_b603 at hO
  refine lv_iinc (v := (x17 + (1 : Int32))) (lv' := [(17, .int (x17 + (1 : Int32))), (0, .ref (gad g 0)), (1, .int x1), (2, .int x2), (3, .int x3), (6, .int x6), (8, .int x8), (9, .int x9), (10, .int x10), (11, .int x11), (12, .int x12), (13, .int x13), (14, .int x14), (15, .int x15), (16, .int x16)]) hx hb dX11_many_603 hl (k := 14) rfl rfl (by decide) rfl (fun ls hl => ?_)
  refine lv_goto (tgt := 376) hx hb dX11_many_606 (by decide) ?_
  exact hrec st x1 x2 x3 x6 x8 x9 x10 x11 x12 x13 x14 x15 x16 (x17 + (1 : Int32)) H locs ls hI (lv_sub hl [1, 2, 3, 4, 5, 6, 7, 8, 9, 10, 11, 12, 13, 14, 0] rfl) hO X hF
def m_many_b600 (rec : CS → Int32 → Int32 → Int32 → Int32 → Int32 → Int32 → Int32 → Int32 → Int32 → Int32 → Int32 → Int32 → Int32 → Int32 → Option (CS × Int32)) (st : CS) (x1 : Int32) (x2 : Int32) (x3 : Int32) (x6 : Int32) (x8 : Int32) (x9 : Int32) (x10 : Int32) (x11 : Int32) (x12 : Int32) (x13 : Int32) (x14 : Int32) (x15 : Int32) (x16 : Int32) (x17 : Int32) : Option (CS × Int32) := (m_many_b603 rec st x1 x2 x3 x6 x8 x9 x10 x11 x12 x13 x14 (x15 + (1 : Int32)) x16 x17)
def o_m_many_b600 (orec : CS → Int32 → Int32 → Int32 → Int32 → Int32 → Int32 → Int32 → Int32 → Int32 → Int32 → Int32 → Int32 → Int32 → Int32 → Prop) (st : CS) (x1 : Int32) (x2 : Int32) (x3 : Int32) (x6 : Int32) (x8 : Int32) (x9 : Int32) (x10 : Int32) (x11 : Int32) (x12 : Int32) (x13 : Int32) (x14 : Int32) (x15 : Int32) (x16 : Int32) (x17 : Int32) : Prop := (o_m_many_b603 orec st x1 x2 x3 x6 x8 x9 x10 x11 x12 x13 x14 (x15 + (1 : Int32)) x16 x17)
set_option maxHeartbeats 4000000 in
set_option maxRecDepth 100000 in
theorem k_m_many_b600 {p : Program} {l : Launch} {e : Env} {s : State} {m : MethodId} {args : Array Value} {below : List Frame} {meth : Method} {c : Code} {A : Nat → Prop} (g : Gm) (C : cX p s m args meth c A cX11_many (some .int) 21 RX11 wq_X11_many (gD g) vwCl (mty g) (mz g)) (rec : CS → Int32 → Int32 → Int32 → Int32 → Int32 → Int32 → Int32 → Int32 → Int32 → Int32 → Int32 → Int32 → Int32 → Int32 → Option (CS × Int32)) (orec : CS → Int32 → Int32 → Int32 → Int32 → Int32 → Int32 → Int32 → Int32 → Int32 → Int32 → Int32 → Int32 → Int32 → Int32 → Prop) (hrec : ∀ (st : CS) (x1 : Int32) (x2 : Int32) (x3 : Int32) (x6 : Int32) (x8 : Int32) (x9 : Int32) (x10 : Int32) (x11 : Int32) (x12 : Int32) (x13 : Int32) (x14 : Int32) (x15 : Int32) (x16 : Int32) (x17 : Int32) (H : Heap) (locs : List Loc) (ls : Array Slot), cI (gD g) vwCl (mw g) A s st H locs → lv_has ls 21 [(0, .ref (gad g 0)), (1, .int x1), (2, .int x2), (3, .int x3), (6, .int x6), (8, .int x8), (9, .int x9), (10, .int x10), (11, .int x11), (12, .int x12), (13, .int x13), (14, .int x14), (15, .int x15), (16, .int x16), (17, .int x17)] → orec st x1 x2 x3 x6 x8 x9 x10 x11 x12 x13 x14 x15 x16 x17 → ∀ (X : CS × Int32), some X = rec st x1 x2 x3 x6 x8 x9 x10 x11 x12 x13 x14 x15 x16 x17 → W p l e rm_m_many s m args below meth c H locs 0 0 (MQ below (cQi (gD g) vwCl (mty g) (mw g) A X.1 X.2) args s 0 0 A) (F0 m 376 ls [])) (st : CS) (x1 : Int32) (x2 : Int32) (x3 : Int32) (x6 : Int32) (x8 : Int32) (x9 : Int32) (x10 : Int32) (x11 : Int32) (x12 : Int32) (x13 : Int32) (x14 : Int32) (x15 : Int32) (x16 : Int32) (x17 : Int32) (H : Heap) (locs : List Loc) (ls : Array Slot) (hI : cI (gD g) vwCl (mw g) A s st H locs) (hl : lv_has ls 21 [(0, .ref (gad g 0)), (1, .int x1), (2, .int x2), (3, .int x3), (6, .int x6), (8, .int x8), (9, .int x9), (10, .int x10), (11, .int x11), (12, .int x12), (13, .int x13), (14, .int x14), (15, .int x15), (16, .int x16), (17, .int x17)]) (hO : o_m_many_b600 orec st x1 x2 x3 x6 x8 x9 x10 x11 x12 x13 x14 x15 x16 x17) (X : CS × Int32) (hF : some X = m_many_b600 rec st x1 x2 x3 x6 x8 x9 x10 x11 x12 x13 x14 x15 x16 x17) : W p l e rm_m_many s m args below meth c H locs 0 0 (MQ below (cQi (gD g) vwCl (mty g) (mw g) A X.1 X.2) args s 0 0 A) (F0 m 600 ls []) := by
  obtain ⟨hx, hb, hr, hml, hown, hts, hlocks, hK, hA, hZ, hzo⟩ := id C
  unfold m_many_b600 at hF
  unfold o_m_many_b600 at hO
  refine lv_iinc (v := (x15 + (1 : Int32))) (lv' := [(15, .int (x15 + (1 : Int32))), (0, .ref (gad g 0)), (1, .int x1), (2, .int x2), (3, .int x3), (6, .int x6), (8, .int x8), (9, .int x9), (10, .int x10), (11, .int x11), (12, .int x12), (13, .int x13), (14, .int x14), (16, .int x16), (17, .int x17)]) hx hb dX11_many_600 hl (k := 12) rfl rfl (by decide) rfl (fun ls hl => ?_)
  exact k_m_many_b603 g C rec orec hrec st x1 x2 x3 x6 x8 x9 x10 x11 x12 x13 x14 (x15 + (1 : Int32)) x16 x17 H locs ls hI (lv_sub hl [1, 2, 3, 4, 5, 6, 7, 8, 9, 10, 11, 12, 0, 13, 14] rfl) hO X hF
def m_many_b583 (rec : CS → Int32 → Int32 → Int32 → Int32 → Int32 → Int32 → Int32 → Int32 → Int32 → Int32 → Int32 → Int32 → Int32 → Int32 → Option (CS × Int32)) (st : CS) (x1 : Int32) (x2 : Int32) (x3 : Int32) (x6 : Int32) (x8 : Int32) (x9 : Int32) (x10 : Int32) (x11 : Int32) (x12 : Int32) (x13 : Int32) (x14 : Int32) (x15 : Int32) (x16 : Int32) (x17 : Int32) : Option (CS × Int32) := (m_many_b600 rec st x1 x2 x3 x6 x8 x9 x10 x11 x12 x13 x14 x15 x16 x17)
def o_m_many_b583 (orec : CS → Int32 → Int32 → Int32 → Int32 → Int32 → Int32 → Int32 → Int32 → Int32 → Int32 → Int32 → Int32 → Int32 → Int32 → Prop) (st : CS) (x1 : Int32) (x2 : Int32) (x3 : Int32) (x6 : Int32) (x8 : Int32) (x9 : Int32) (x10 : Int32) (x11 : Int32) (x12 : Int32) (x13 : Int32) (x14 : Int32) (x15 : Int32) (x16 : Int32) (x17 : Int32) : Prop := (o_m_many_b600 orec st x1 x2 x3 x6 x8 x9 x10 x11 x12 x13 x14 x15 x16 x17)
set_option maxHeartbeats 4000000 in
set_option maxRecDepth 100000 in
theorem k_m_many_b583 {p : Program} {l : Launch} {e : Env} {s : State} {m : MethodId} {args : Array Value} {below : List Frame} {meth : Method} {c : Code} {A : Nat → Prop} (g : Gm) (C : cX p s m args meth c A cX11_many (some .int) 21 RX11 wq_X11_many (gD g) vwCl (mty g) (mz g)) (rec : CS → Int32 → Int32 → Int32 → Int32 → Int32 → Int32 → Int32 → Int32 → Int32 → Int32 → Int32 → Int32 → Int32 → Int32 → Option (CS × Int32)) (orec : CS → Int32 → Int32 → Int32 → Int32 → Int32 → Int32 → Int32 → Int32 → Int32 → Int32 → Int32 → Int32 → Int32 → Int32 → Prop) (hrec : ∀ (st : CS) (x1 : Int32) (x2 : Int32) (x3 : Int32) (x6 : Int32) (x8 : Int32) (x9 : Int32) (x10 : Int32) (x11 : Int32) (x12 : Int32) (x13 : Int32) (x14 : Int32) (x15 : Int32) (x16 : Int32) (x17 : Int32) (H : Heap) (locs : List Loc) (ls : Array Slot), cI (gD g) vwCl (mw g) A s st H locs → lv_has ls 21 [(0, .ref (gad g 0)), (1, .int x1), (2, .int x2), (3, .int x3), (6, .int x6), (8, .int x8), (9, .int x9), (10, .int x10), (11, .int x11), (12, .int x12), (13, .int x13), (14, .int x14), (15, .int x15), (16, .int x16), (17, .int x17)] → orec st x1 x2 x3 x6 x8 x9 x10 x11 x12 x13 x14 x15 x16 x17 → ∀ (X : CS × Int32), some X = rec st x1 x2 x3 x6 x8 x9 x10 x11 x12 x13 x14 x15 x16 x17 → W p l e rm_m_many s m args below meth c H locs 0 0 (MQ below (cQi (gD g) vwCl (mty g) (mw g) A X.1 X.2) args s 0 0 A) (F0 m 376 ls [])) (st : CS) (x1 : Int32) (x2 : Int32) (x3 : Int32) (x6 : Int32) (x8 : Int32) (x9 : Int32) (x10 : Int32) (x11 : Int32) (x12 : Int32) (x13 : Int32) (x14 : Int32) (x15 : Int32) (x16 : Int32) (x17 : Int32) (H : Heap) (locs : List Loc) (ls : Array Slot) (hI : cI (gD g) vwCl (mw g) A s st H locs) (hl : lv_has ls 21 [(0, .ref (gad g 0)), (1, .int x1), (2, .int x2), (3, .int x3), (6, .int x6), (8, .int x8), (9, .int x9), (10, .int x10), (11, .int x11), (12, .int x12), (13, .int x13), (14, .int x14), (15, .int x15), (16, .int x16), (17, .int x17)]) (hO : o_m_many_b583 orec st x1 x2 x3 x6 x8 x9 x10 x11 x12 x13 x14 x15 x16 x17) (X : CS × Int32) (hF : some X = m_many_b583 rec st x1 x2 x3 x6 x8 x9 x10 x11 x12 x13 x14 x15 x16 x17) : W p l e rm_m_many s m args below meth c H locs 0 0 (MQ below (cQi (gD g) vwCl (mty g) (mw g) A X.1 X.2) args s 0 0 A) (F0 m 583 ls []) := by
  obtain ⟨hx, hb, hr, hml, hown, hts, hlocks, hK, hA, hZ, hzo⟩ := id C
  unfold m_many_b583 at hF
  unfold o_m_many_b583 at hO
  refine lv_goto (tgt := 600) hx hb dX11_many_583 (by decide) ?_
  exact k_m_many_b600 g C rec orec hrec st x1 x2 x3 x6 x8 x9 x10 x11 x12 x13 x14 x15 x16 x17 H locs ls hI (lv_sub hl [0, 1, 2, 3, 4, 5, 6, 7, 8, 9, 10, 11, 12, 13, 14] rfl) hO X hF
def m_many_b564 (rec : CS → Int32 → Int32 → Int32 → Int32 → Int32 → Int32 → Int32 → Int32 → Int32 → Int32 → Int32 → Int32 → Int32 → Int32 → Option (CS × Int32)) (st : CS) (x1 : Int32) (x2 : Int32) (x3 : Int32) (x6 : Int32) (x8 : Int32) (x9 : Int32) (x10 : Int32) (x11 : Int32) (x12 : Int32) (x13 : Int32) (x14 : Int32) (x15 : Int32) (x16 : Int32) (x17 : Int32) (x18 : Int32) (x20 : Int32) : Option (CS × Int32) := (if (((gA st 4) x15.toNatClampNeg) = (-1 : Int32)) then (m_many_b583 rec (m_writeFar st x18 x20) x1 x2 x3 x6 x8 x9 x10 x11 x12 x13 x14 x15 x16 x17) else (m_many_b600 rec (sA st 5 (upd (gA st 5) ((gA st 4) x15.toNatClampNeg).toNatClampNeg x20)) x1 x2 x3 x6 x8 x9 x10 x11 x12 x13 x14 x15 x16 x17))
def o_m_many_b564 (orec : CS → Int32 → Int32 → Int32 → Int32 → Int32 → Int32 → Int32 → Int32 → Int32 → Int32 → Int32 → Int32 → Int32 → Int32 → Prop) (st : CS) (x1 : Int32) (x2 : Int32) (x3 : Int32) (x6 : Int32) (x8 : Int32) (x9 : Int32) (x10 : Int32) (x11 : Int32) (x12 : Int32) (x13 : Int32) (x14 : Int32) (x15 : Int32) (x16 : Int32) (x17 : Int32) (x18 : Int32) (x20 : Int32) : Prop := (vp_in x15 16 ∧ (((((gA st 4) x15.toNatClampNeg) = (-1 : Int32)) → ((o_m_writeFar st x18 x20) ∧ (o_m_many_b583 orec (m_writeFar st x18 x20) x1 x2 x3 x6 x8 x9 x10 x11 x12 x13 x14 x15 x16 x17))) ∧ (¬ (((gA st 4) x15.toNatClampNeg) = (-1 : Int32)) → (vp_in x15 16 ∧ (vp_in ((gA st 4) x15.toNatClampNeg) 16384 ∧ (o_m_many_b600 orec (sA st 5 (upd (gA st 5) ((gA st 4) x15.toNatClampNeg).toNatClampNeg x20)) x1 x2 x3 x6 x8 x9 x10 x11 x12 x13 x14 x15 x16 x17))))))
set_option maxHeartbeats 4000000 in
set_option maxRecDepth 100000 in
theorem k_m_many_b564 {p : Program} {l : Launch} {e : Env} {s : State} {m : MethodId} {args : Array Value} {below : List Frame} {meth : Method} {c : Code} {A : Nat → Prop} (g : Gm) (C : cX p s m args meth c A cX11_many (some .int) 21 RX11 wq_X11_many (gD g) vwCl (mty g) (mz g)) (rec : CS → Int32 → Int32 → Int32 → Int32 → Int32 → Int32 → Int32 → Int32 → Int32 → Int32 → Int32 → Int32 → Int32 → Int32 → Option (CS × Int32)) (orec : CS → Int32 → Int32 → Int32 → Int32 → Int32 → Int32 → Int32 → Int32 → Int32 → Int32 → Int32 → Int32 → Int32 → Int32 → Prop) (hrec : ∀ (st : CS) (x1 : Int32) (x2 : Int32) (x3 : Int32) (x6 : Int32) (x8 : Int32) (x9 : Int32) (x10 : Int32) (x11 : Int32) (x12 : Int32) (x13 : Int32) (x14 : Int32) (x15 : Int32) (x16 : Int32) (x17 : Int32) (H : Heap) (locs : List Loc) (ls : Array Slot), cI (gD g) vwCl (mw g) A s st H locs → lv_has ls 21 [(0, .ref (gad g 0)), (1, .int x1), (2, .int x2), (3, .int x3), (6, .int x6), (8, .int x8), (9, .int x9), (10, .int x10), (11, .int x11), (12, .int x12), (13, .int x13), (14, .int x14), (15, .int x15), (16, .int x16), (17, .int x17)] → orec st x1 x2 x3 x6 x8 x9 x10 x11 x12 x13 x14 x15 x16 x17 → ∀ (X : CS × Int32), some X = rec st x1 x2 x3 x6 x8 x9 x10 x11 x12 x13 x14 x15 x16 x17 → W p l e rm_m_many s m args below meth c H locs 0 0 (MQ below (cQi (gD g) vwCl (mty g) (mw g) A X.1 X.2) args s 0 0 A) (F0 m 376 ls [])) (st : CS) (x1 : Int32) (x2 : Int32) (x3 : Int32) (x6 : Int32) (x8 : Int32) (x9 : Int32) (x10 : Int32) (x11 : Int32) (x12 : Int32) (x13 : Int32) (x14 : Int32) (x15 : Int32) (x16 : Int32) (x17 : Int32) (x18 : Int32) (x20 : Int32) (H : Heap) (locs : List Loc) (ls : Array Slot) (hI : cI (gD g) vwCl (mw g) A s st H locs) (hl : lv_has ls 21 [(0, .ref (gad g 0)), (1, .int x1), (2, .int x2), (3, .int x3), (6, .int x6), (8, .int x8), (9, .int x9), (10, .int x10), (11, .int x11), (12, .int x12), (13, .int x13), (14, .int x14), (15, .int x15), (16, .int x16), (17, .int x17), (18, .int x18), (20, .int x20)]) (hO : o_m_many_b564 orec st x1 x2 x3 x6 x8 x9 x10 x11 x12 x13 x14 x15 x16 x17 x18 x20) (X : CS × Int32) (hF : some X = m_many_b564 rec st x1 x2 x3 x6 x8 x9 x10 x11 x12 x13 x14 x15 x16 x17 x18 x20) : W p l e rm_m_many s m args below meth c H locs 0 0 (MQ below (cQi (gD g) vwCl (mty g) (mw g) A X.1 X.2) args s 0 0 A) (F0 m 564 ls []) := by
  obtain ⟨hx, hb, hr, hml, hown, hts, hlocks, hK, hA, hZ, hzo⟩ := id C
  unfold m_many_b564 at hF
  unfold o_m_many_b564 at hO
  refine lv_aload_n hx hb dX11_many_564 rfl (lv_at hl 0 rfl) ?_
  refine va_get (D := gD g) (ci := 11) (C := RX11) (T := TX11) (N := 50) (v := .ref (gad g 5)) hx hb hts (fun w h => List.mem_cons_of_mem _ (isX110 w h)) hown hK hI.1 0 rfl rfl 9 (by decide) (hts _ (List.mem_cons_of_mem _ mw189)) (fun _ h9 => h9) rfl dX11_many_565 ?_
  refine lv_iload hx hb dX11_many_568 (lv_at hl 12 rfl) ?_
  have hq_570_0 := hO.1
  have hO := hO.2
  refine va_iald (f := (gA st 4)) hx hb hK hI.1 5 4 rfl rfl hq_570_0 dX11_many_570 ?_
  refine lv_iconst (v := (-1 : Int32)) hx hb dX11_many_571 (by decide) ?_
  refine lv_icmp_ne (tgt := 586) hx hb dX11_many_572 (by decide) (fun c_572 => ?_) (fun c_572 => ?_)
  · have hF := hF.trans (if_neg c_572)
    have hO := hO.2 c_572
    refine lv_aload_n hx hb dX11_many_586 rfl (lv_at hl 0 rfl) ?_
    refine va_get (D := gD g) (ci := 11) (C := RX11) (T := TX11) (N := 50) (v := .ref (gad g 6)) hx hb hts (fun w h => List.mem_cons_of_mem _ (isX110 w h)) hown hK hI.1 0 rfl rfl 10 (by decide) (hts _ (List.mem_cons_of_mem _ mw190)) (fun _ h9 => h9) rfl dX11_many_587 ?_
    refine lv_aload_n hx hb dX11_many_590 rfl (lv_at hl 0 rfl) ?_
    refine va_get (D := gD g) (ci := 11) (C := RX11) (T := TX11) (N := 50) (v := .ref (gad g 5)) hx hb hts (fun w h => List.mem_cons_of_mem _ (isX110 w h)) hown hK hI.1 0 rfl rfl 9 (by decide) (hts _ (List.mem_cons_of_mem _ mw189)) (fun _ h9 => h9) rfl dX11_many_591 ?_
    refine lv_iload hx hb dX11_many_594 (lv_at hl 12 rfl) ?_
    have hq_596_0 := hO.1
    have hO := hO.2
    refine va_iald (f := (gA st 4)) hx hb hK hI.1 5 4 rfl rfl hq_596_0 dX11_many_596 ?_
    refine lv_iload hx hb dX11_many_597 (lv_at hl 16 rfl) ?_
    have hq_599_1 := hO.1
    have hO := hO.2
    refine va_iast (f := (gA st 5)) hx hb hK hI.1 hI.2.1 hI.2.2 6 5 rfl rfl hq_599_1 dX11_many_599 (fun H locs hP hD hS => ?_)
    have hI : cI (gD g) vwCl (mw g) A s (sA st 5 (upd (gA st 5) ((gA st 4) x15.toNatClampNeg).toNatClampNeg x20)) H locs := ⟨hP, hD, hS⟩
    exact k_m_many_b600 g C rec orec hrec (sA st 5 (upd (gA st 5) ((gA st 4) x15.toNatClampNeg).toNatClampNeg x20)) x1 x2 x3 x6 x8 x9 x10 x11 x12 x13 x14 x15 x16 x17 H locs ls hI (lv_sub hl [0, 1, 2, 3, 4, 5, 6, 7, 8, 9, 10, 11, 12, 13, 14] rfl) hO X hF
  · have hF := hF.trans (if_pos c_572)
    have hO := hO.1 c_572
    refine lv_aload_n hx hb dX11_many_575 rfl (lv_at hl 0 rfl) ?_
    refine lv_iload hx hb dX11_many_576 (lv_at hl 15 rfl) ?_
    refine lv_iload hx hb dX11_many_578 (lv_at hl 16 rfl) ?_
    have hq_580_0 := hO.1
    have hO := hO.2
    refine cx_Vv (As := [.int x18, .int x20]) (rest := []) C (c_m_writeFar l g st x18 x20 hq_580_0) (cwV 2 hts (gd_V _ mw889 mw890 mw891 mw3 mw892) rfl rfl rfl yd_yX11_writeFar ⟨Nat.le_of_ble_eq_true rfl, Nat.le_of_ble_eq_true rfl⟩) (va_recv hK hI.1 (ci := 11) (q0 := 0) rfl rfl) hI rfl hl.1 rfl (Nat.le_of_ble_eq_true rfl) dX11_many_580 (fun H locs hI => ?_)
    exact k_m_many_b583 g C rec orec hrec (m_writeFar st x18 x20) x1 x2 x3 x6 x8 x9 x10 x11 x12 x13 x14 x15 x16 x17 H locs ls hI (lv_sub hl [0, 1, 2, 3, 4, 5, 6, 7, 8, 9, 10, 11, 12, 13, 14] rfl) hO X hF
def m_many_b560 (rec : CS → Int32 → Int32 → Int32 → Int32 → Int32 → Int32 → Int32 → Int32 → Int32 → Int32 → Int32 → Int32 → Int32 → Int32 → Option (CS × Int32)) (st : CS) (x1 : Int32) (x2 : Int32) (x3 : Int32) (x6 : Int32) (x8 : Int32) (x9 : Int32) (x10 : Int32) (x11 : Int32) (x12 : Int32) (x13 : Int32) (x14 : Int32) (x15 : Int32) (x16 : Int32) (x17 : Int32) (x18 : Int32) : Option (CS × Int32) := (m_many_b564 rec st x1 x2 x3 x6 x8 x9 x10 x11 x12 x13 x14 x15 x16 x17 x18 x11)
def o_m_many_b560 (orec : CS → Int32 → Int32 → Int32 → Int32 → Int32 → Int32 → Int32 → Int32 → Int32 → Int32 → Int32 → Int32 → Int32 → Int32 → Prop) (st : CS) (x1 : Int32) (x2 : Int32) (x3 : Int32) (x6 : Int32) (x8 : Int32) (x9 : Int32) (x10 : Int32) (x11 : Int32) (x12 : Int32) (x13 : Int32) (x14 : Int32) (x15 : Int32) (x16 : Int32) (x17 : Int32) (x18 : Int32) : Prop := (o_m_many_b564 orec st x1 x2 x3 x6 x8 x9 x10 x11 x12 x13 x14 x15 x16 x17 x18 x11)
set_option maxHeartbeats 4000000 in
set_option maxRecDepth 100000 in
theorem k_m_many_b560 {p : Program} {l : Launch} {e : Env} {s : State} {m : MethodId} {args : Array Value} {below : List Frame} {meth : Method} {c : Code} {A : Nat → Prop} (g : Gm) (C : cX p s m args meth c A cX11_many (some .int) 21 RX11 wq_X11_many (gD g) vwCl (mty g) (mz g)) (rec : CS → Int32 → Int32 → Int32 → Int32 → Int32 → Int32 → Int32 → Int32 → Int32 → Int32 → Int32 → Int32 → Int32 → Int32 → Option (CS × Int32)) (orec : CS → Int32 → Int32 → Int32 → Int32 → Int32 → Int32 → Int32 → Int32 → Int32 → Int32 → Int32 → Int32 → Int32 → Int32 → Prop) (hrec : ∀ (st : CS) (x1 : Int32) (x2 : Int32) (x3 : Int32) (x6 : Int32) (x8 : Int32) (x9 : Int32) (x10 : Int32) (x11 : Int32) (x12 : Int32) (x13 : Int32) (x14 : Int32) (x15 : Int32) (x16 : Int32) (x17 : Int32) (H : Heap) (locs : List Loc) (ls : Array Slot), cI (gD g) vwCl (mw g) A s st H locs → lv_has ls 21 [(0, .ref (gad g 0)), (1, .int x1), (2, .int x2), (3, .int x3), (6, .int x6), (8, .int x8), (9, .int x9), (10, .int x10), (11, .int x11), (12, .int x12), (13, .int x13), (14, .int x14), (15, .int x15), (16, .int x16), (17, .int x17)] → orec st x1 x2 x3 x6 x8 x9 x10 x11 x12 x13 x14 x15 x16 x17 → ∀ (X : CS × Int32), some X = rec st x1 x2 x3 x6 x8 x9 x10 x11 x12 x13 x14 x15 x16 x17 → W p l e rm_m_many s m args below meth c H locs 0 0 (MQ below (cQi (gD g) vwCl (mty g) (mw g) A X.1 X.2) args s 0 0 A) (F0 m 376 ls [])) (st : CS) (x1 : Int32) (x2 : Int32) (x3 : Int32) (x6 : Int32) (x8 : Int32) (x9 : Int32) (x10 : Int32) (x11 : Int32) (x12 : Int32) (x13 : Int32) (x14 : Int32) (x15 : Int32) (x16 : Int32) (x17 : Int32) (x18 : Int32) (H : Heap) (locs : List Loc) (ls : Array Slot) (hI : cI (gD g) vwCl (mw g) A s st H locs) (hl : lv_has ls 21 [(0, .ref (gad g 0)), (1, .int x1), (2, .int x2), (3, .int x3), (6, .int x6), (8, .int x8), (9, .int x9), (10, .int x10), (11, .int x11), (12, .int x12), (13, .int x13), (14, .int x14), (15, .int x15), (16, .int x16), (17, .int x17), (18, .int x18)]) (hO : o_m_many_b560 orec st x1 x2 x3 x6 x8 x9 x10 x11 x12 x13 x14 x15 x16 x17 x18) (X : CS × Int32) (hF : some X = m_many_b560 rec st x1 x2 x3 x6 x8 x9 x10 x11 x12 x13 x14 x15 x16 x17 x18) : W p l e rm_m_many s m args below meth c H locs 0 0 (MQ below (cQi (gD g) vwCl (mty g) (mw g) A X.1 X.2) args s 0 0 A) (F0 m 560 ls []) := by
  obtain ⟨hx, hb, hr, hml, hown, hts, hlocks, hK, hA, hZ, hzo⟩ := id C
  unfold m_many_b560 at hF
  unfold o_m_many_b560 at hO
  refine lv_iload hx hb dX11_many_560 (lv_at hl 8 rfl) ?_
  refine lv_istore (lv' := [(20, .int x11), (0, .ref (gad g 0)), (1, .int x1), (2, .int x2), (3, .int x3), (6, .int x6), (8, .int x8), (9, .int x9), (10, .int x10), (11, .int x11), (12, .int x12), (13, .int x13), (14, .int x14), (15, .int x15), (16, .int x16), (17, .int x17), (18, .int x18)]) hx hb dX11_many_562 hl (by decide) rfl (fun ls hl => ?_)
  exact k_m_many_b564 g C rec orec hrec st x1 x2 x3 x6 x8 x9 x10 x11 x12 x13 x14 x15 x16 x17 x18 x11 H locs ls hI (lv_sub hl [1, 2, 3, 4, 5, 6, 7, 8, 9, 10, 11, 12, 13, 14, 15, 16, 0] rfl) hO X hF
def m_many_b523 (rec : CS → Int32 → Int32 → Int32 → Int32 → Int32 → Int32 → Int32 → Int32 → Int32 → Int32 → Int32 → Int32 → Int32 → Int32 → Option (CS × Int32)) (st : CS) (x1 : Int32) (x2 : Int32) (x3 : Int32) (x6 : Int32) (x8 : Int32) (x9 : Int32) (x10 : Int32) (x11 : Int32) (x12 : Int32) (x13 : Int32) (x14 : Int32) (x15 : Int32) (x16 : Int32) (x17 : Int32) (x18 : Int32) (y0 : Int32) : Option (CS × Int32) := (if (x17 = x10) then (if ((15 : Int32) ≤ x17) then (m_many_b564 rec st x1 x2 x3 x6 x8 x9 x10 x11 x12 x13 x14 x15 x16 x17 x18 y0) else (if (x17 = x3) then (if (x14 = 0) then (m_many_b560 rec st x1 x2 x3 x6 x8 x9 x10 x11 x12 x13 x14 x15 x16 x17 x18) else (if ((m_isOwn x13 x17) = 0) then (m_many_b560 rec st x1 x2 x3 x6 x8 x9 x10 x11 x12 x13 x14 x15 x16 x17 x18) else (m_many_b564 rec st x1 x2 x3 x6 x8 x9 x10 x11 x12 x13 x14 x15 x16 x17 x18 y0))) else (m_many_b564 rec st x1 x2 x3 x6 x8 x9 x10 x11 x12 x13 x14 x15 x16 x17 x18 y0))) else (m_many_b564 rec st x1 x2 x3 x6 x8 x9 x10 x11 x12 x13 x14 x15 x16 x17 x18 y0))
def o_m_many_b523 (orec : CS → Int32 → Int32 → Int32 → Int32 → Int32 → Int32 → Int32 → Int32 → Int32 → Int32 → Int32 → Int32 → Int32 → Int32 → Prop) (st : CS) (x1 : Int32) (x2 : Int32) (x3 : Int32) (x6 : Int32) (x8 : Int32) (x9 : Int32) (x10 : Int32) (x11 : Int32) (x12 : Int32) (x13 : Int32) (x14 : Int32) (x15 : Int32) (x16 : Int32) (x17 : Int32) (x18 : Int32) (y0 : Int32) : Prop := (((x17 = x10) → ((((15 : Int32) ≤ x17) → (o_m_many_b564 orec st x1 x2 x3 x6 x8 x9 x10 x11 x12 x13 x14 x15 x16 x17 x18 y0)) ∧ (¬ ((15 : Int32) ≤ x17) → (((x17 = x3) → (((x14 = 0) → (o_m_many_b560 orec st x1 x2 x3 x6 x8 x9 x10 x11 x12 x13 x14 x15 x16 x17 x18)) ∧ (¬ (x14 = 0) → ((((m_isOwn x13 x17) = 0) → (o_m_many_b560 orec st x1 x2 x3 x6 x8 x9 x10 x11 x12 x13 x14 x15 x16 x17 x18)) ∧ (¬ ((m_isOwn x13 x17) = 0) → (o_m_many_b564 orec st x1 x2 x3 x6 x8 x9 x10 x11 x12 x13 x14 x15 x16 x17 x18 y0)))))) ∧ (¬ (x17 = x3) → (o_m_many_b564 orec st x1 x2 x3 x6 x8 x9 x10 x11 x12 x13 x14 x15 x16 x17 x18 y0)))))) ∧ (¬ (x17 = x10) → (o_m_many_b564 orec st x1 x2 x3 x6 x8 x9 x10 x11 x12 x13 x14 x15 x16 x17 x18 y0)))
set_option maxHeartbeats 4000000 in
set_option maxRecDepth 100000 in
theorem k_m_many_b523 {p : Program} {l : Launch} {e : Env} {s : State} {m : MethodId} {args : Array Value} {below : List Frame} {meth : Method} {c : Code} {A : Nat → Prop} (g : Gm) (C : cX p s m args meth c A cX11_many (some .int) 21 RX11 wq_X11_many (gD g) vwCl (mty g) (mz g)) (rec : CS → Int32 → Int32 → Int32 → Int32 → Int32 → Int32 → Int32 → Int32 → Int32 → Int32 → Int32 → Int32 → Int32 → Int32 → Option (CS × Int32)) (orec : CS → Int32 → Int32 → Int32 → Int32 → Int32 → Int32 → Int32 → Int32 → Int32 → Int32 → Int32 → Int32 → Int32 → Int32 → Prop) (hrec : ∀ (st : CS) (x1 : Int32) (x2 : Int32) (x3 : Int32) (x6 : Int32) (x8 : Int32) (x9 : Int32) (x10 : Int32) (x11 : Int32) (x12 : Int32) (x13 : Int32) (x14 : Int32) (x15 : Int32) (x16 : Int32) (x17 : Int32) (H : Heap) (locs : List Loc) (ls : Array Slot), cI (gD g) vwCl (mw g) A s st H locs → lv_has ls 21 [(0, .ref (gad g 0)), (1, .int x1), (2, .int x2), (3, .int x3), (6, .int x6), (8, .int x8), (9, .int x9), (10, .int x10), (11, .int x11), (12, .int x12), (13, .int x13), (14, .int x14), (15, .int x15), (16, .int x16), (17, .int x17)] → orec st x1 x2 x3 x6 x8 x9 x10 x11 x12 x13 x14 x15 x16 x17 → ∀ (X : CS × Int32), some X = rec st x1 x2 x3 x6 x8 x9 x10 x11 x12 x13 x14 x15 x16 x17 → W p l e rm_m_many s m args below meth c H locs 0 0 (MQ below (cQi (gD g) vwCl (mty g) (mw g) A X.1 X.2) args s 0 0 A) (F0 m 376 ls [])) (st : CS) (x1 : Int32) (x2 : Int32) (x3 : Int32) (x6 : Int32) (x8 : Int32) (x9 : Int32) (x10 : Int32) (x11 : Int32) (x12 : Int32) (x13 : Int32) (x14 : Int32) (x15 : Int32) (x16 : Int32) (x17 : Int32) (x18 : Int32) (y0 : Int32) (H : Heap) (locs : List Loc) (ls : Array Slot) (hI : cI (gD g) vwCl (mw g) A s st H locs) (hl : lv_has ls 21 [(0, .ref (gad g 0)), (1, .int x1), (2, .int x2), (3, .int x3), (6, .int x6), (8, .int x8), (9, .int x9), (10, .int x10), (11, .int x11), (12, .int x12), (13, .int x13), (14, .int x14), (15, .int x15), (16, .int x16), (17, .int x17), (18, .int x18)]) (hO : o_m_many_b523 orec st x1 x2 x3 x6 x8 x9 x10 x11 x12 x13 x14 x15 x16 x17 x18 y0) (X : CS × Int32) (hF : some X = m_many_b523 rec st x1 x2 x3 x6 x8 x9 x10 x11 x12 x13 x14 x15 x16 x17 x18 y0) : W p l e rm_m_many s m args below meth c H locs 0 0 (MQ below (cQi (gD g) vwCl (mty g) (mw g) A X.1 X.2) args s 0 0 A) (F0 m 523 ls [.int y0]) := by
  obtain ⟨hx, hb, hr, hml, hown, hts, hlocks, hK, hA, hZ, hzo⟩ := id C
  unfold m_many_b523 at hF
  unfold o_m_many_b523 at hO
  refine lv_istore (lv' := [(20, .int y0), (0, .ref (gad g 0)), (1, .int x1), (2, .int x2), (3, .int x3), (6, .int x6), (8, .int x8), (9, .int x9), (10, .int x10), (11, .int x11), (12, .int x12), (13, .int x13), (14, .int x14), (15, .int x15), (16, .int x16), (17, .int x17), (18, .int x18)]) hx hb dX11_many_523 hl (by decide) rfl (fun ls hl => ?_)
  refine lv_iload hx hb dX11_many_525 (lv_at hl 15 rfl) ?_
  refine lv_iload hx hb dX11_many_527 (lv_at hl 8 rfl) ?_
  refine lv_icmp_ne (tgt := 564) hx hb dX11_many_529 (by decide) (fun c_529 => ?_) (fun c_529 => ?_)
  · have hF := hF.trans (if_neg c_529)
    have hO := hO.2 c_529
    exact k_m_many_b564 g C rec orec hrec st x1 x2 x3 x6 x8 x9 x10 x11 x12 x13 x14 x15 x16 x17 x18 y0 H locs ls hI (lv_sub hl [1, 2, 3, 4, 5, 6, 7, 8, 9, 10, 11, 12, 13, 14, 15, 16, 0] rfl) hO X hF
  · have hF := hF.trans (if_pos c_529)
    have hO := hO.1 c_529
    refine lv_iload hx hb dX11_many_532 (lv_at hl 15 rfl) ?_
    refine lv_bipush (v := (15 : Int32)) hx hb dX11_many_534 (by decide) ?_
    refine lv_icmp_ge (tgt := 564) hx hb dX11_many_536 (by decide) (fun c_536 => ?_) (fun c_536 => ?_)
    · have hF := hF.trans (if_pos c_536)
      have hO := hO.1 c_536
      exact k_m_many_b564 g C rec orec hrec st x1 x2 x3 x6 x8 x9 x10 x11 x12 x13 x14 x15 x16 x17 x18 y0 H locs ls hI (lv_sub hl [1, 2, 3, 4, 5, 6, 7, 8, 9, 10, 11, 12, 13, 14, 15, 16, 0] rfl) hO X hF
    · have hF := hF.trans (if_neg c_536)
      have hO := hO.2 c_536
      refine lv_iload hx hb dX11_many_539 (lv_at hl 15 rfl) ?_
      refine lv_iload_n hx hb dX11_many_541 rfl (lv_at hl 4 rfl) ?_
      refine lv_icmp_ne (tgt := 564) hx hb dX11_many_542 (by decide) (fun c_542 => ?_) (fun c_542 => ?_)
      · have hF := hF.trans (if_neg c_542)
        have hO := hO.2 c_542
        exact k_m_many_b564 g C rec orec hrec st x1 x2 x3 x6 x8 x9 x10 x11 x12 x13 x14 x15 x16 x17 x18 y0 H locs ls hI (lv_sub hl [1, 2, 3, 4, 5, 6, 7, 8, 9, 10, 11, 12, 13, 14, 15, 16, 0] rfl) hO X hF
      · have hF := hF.trans (if_pos c_542)
        have hO := hO.1 c_542
        refine lv_iload hx hb dX11_many_545 (lv_at hl 12 rfl) ?_
        refine lv_if_eq (tgt := 560) hx hb dX11_many_547 (by decide) (fun c_547 => ?_) (fun c_547 => ?_)
        · have hF := hF.trans (if_pos c_547)
          have hO := hO.1 c_547
          exact k_m_many_b560 g C rec orec hrec st x1 x2 x3 x6 x8 x9 x10 x11 x12 x13 x14 x15 x16 x17 x18 H locs ls hI (lv_sub hl [1, 2, 3, 4, 5, 6, 7, 8, 9, 10, 11, 12, 13, 14, 15, 16] rfl) hO X hF
        · have hF := hF.trans (if_neg c_547)
          have hO := hO.2 c_547
          refine lv_iload hx hb dX11_many_550 (lv_at hl 11 rfl) ?_
          refine lv_iload hx hb dX11_many_552 (lv_at hl 15 rfl) ?_
          refine cx_Si (As := [.int x13, .int x17]) (rest := []) C (c_m_isOwn l g st x13 x17) (va_cwS 2 hts (gd_S _ mw781 mw782 mw3 mw783) rfl rfl rfl yd_yX11_isOwn ⟨Nat.le_of_ble_eq_true rfl, Nat.le_of_ble_eq_true rfl⟩) hI rfl hl.1 rfl (Nat.le_of_ble_eq_true rfl) dX11_many_554 (fun H locs hI => ?_)
          refine lv_if_ne (tgt := 564) hx hb dX11_many_557 (by decide) (fun c_557 => ?_) (fun c_557 => ?_)
          · have hF := hF.trans (if_neg c_557)
            have hO := hO.2 c_557
            exact k_m_many_b564 g C rec orec hrec st x1 x2 x3 x6 x8 x9 x10 x11 x12 x13 x14 x15 x16 x17 x18 y0 H locs ls hI (lv_sub hl [1, 2, 3, 4, 5, 6, 7, 8, 9, 10, 11, 12, 13, 14, 15, 16, 0] rfl) hO X hF
          · have hF := hF.trans (if_pos c_557)
            have hO := hO.1 c_557
            exact k_m_many_b560 g C rec orec hrec st x1 x2 x3 x6 x8 x9 x10 x11 x12 x13 x14 x15 x16 x17 x18 H locs ls hI (lv_sub hl [1, 2, 3, 4, 5, 6, 7, 8, 9, 10, 11, 12, 13, 14, 15, 16] rfl) hO X hF
def m_many_b476 (rec : CS → Int32 → Int32 → Int32 → Int32 → Int32 → Int32 → Int32 → Int32 → Int32 → Int32 → Int32 → Int32 → Int32 → Int32 → Option (CS × Int32)) (st : CS) (x1 : Int32) (x2 : Int32) (x3 : Int32) (x6 : Int32) (x8 : Int32) (x9 : Int32) (x10 : Int32) (x11 : Int32) (x12 : Int32) (x13 : Int32) (x14 : Int32) (x15 : Int32) (x16 : Int32) (x17 : Int32) : Option (CS × Int32) := (m_many_b600 rec st x1 x2 x3 x6 x8 x9 x10 x11 x12 x13 x14 x15 x16 x17)
def o_m_many_b476 (orec : CS → Int32 → Int32 → Int32 → Int32 → Int32 → Int32 → Int32 → Int32 → Int32 → Int32 → Int32 → Int32 → Int32 → Int32 → Prop) (st : CS) (x1 : Int32) (x2 : Int32) (x3 : Int32) (x6 : Int32) (x8 : Int32) (x9 : Int32) (x10 : Int32) (x11 : Int32) (x12 : Int32) (x13 : Int32) (x14 : Int32) (x15 : Int32) (x16 : Int32) (x17 : Int32) : Prop := (o_m_many_b600 orec st x1 x2 x3 x6 x8 x9 x10 x11 x12 x13 x14 x15 x16 x17)
set_option maxHeartbeats 4000000 in
set_option maxRecDepth 100000 in
theorem k_m_many_b476 {p : Program} {l : Launch} {e : Env} {s : State} {m : MethodId} {args : Array Value} {below : List Frame} {meth : Method} {c : Code} {A : Nat → Prop} (g : Gm) (C : cX p s m args meth c A cX11_many (some .int) 21 RX11 wq_X11_many (gD g) vwCl (mty g) (mz g)) (rec : CS → Int32 → Int32 → Int32 → Int32 → Int32 → Int32 → Int32 → Int32 → Int32 → Int32 → Int32 → Int32 → Int32 → Int32 → Option (CS × Int32)) (orec : CS → Int32 → Int32 → Int32 → Int32 → Int32 → Int32 → Int32 → Int32 → Int32 → Int32 → Int32 → Int32 → Int32 → Int32 → Prop) (hrec : ∀ (st : CS) (x1 : Int32) (x2 : Int32) (x3 : Int32) (x6 : Int32) (x8 : Int32) (x9 : Int32) (x10 : Int32) (x11 : Int32) (x12 : Int32) (x13 : Int32) (x14 : Int32) (x15 : Int32) (x16 : Int32) (x17 : Int32) (H : Heap) (locs : List Loc) (ls : Array Slot), cI (gD g) vwCl (mw g) A s st H locs → lv_has ls 21 [(0, .ref (gad g 0)), (1, .int x1), (2, .int x2), (3, .int x3), (6, .int x6), (8, .int x8), (9, .int x9), (10, .int x10), (11, .int x11), (12, .int x12), (13, .int x13), (14, .int x14), (15, .int x15), (16, .int x16), (17, .int x17)] → orec st x1 x2 x3 x6 x8 x9 x10 x11 x12 x13 x14 x15 x16 x17 → ∀ (X : CS × Int32), some X = rec st x1 x2 x3 x6 x8 x9 x10 x11 x12 x13 x14 x15 x16 x17 → W p l e rm_m_many s m args below meth c H locs 0 0 (MQ below (cQi (gD g) vwCl (mty g) (mw g) A X.1 X.2) args s 0 0 A) (F0 m 376 ls [])) (st : CS) (x1 : Int32) (x2 : Int32) (x3 : Int32) (x6 : Int32) (x8 : Int32) (x9 : Int32) (x10 : Int32) (x11 : Int32) (x12 : Int32) (x13 : Int32) (x14 : Int32) (x15 : Int32) (x16 : Int32) (x17 : Int32) (H : Heap) (locs : List Loc) (ls : Array Slot) (hI : cI (gD g) vwCl (mw g) A s st H locs) (hl : lv_has ls 21 [(0, .ref (gad g 0)), (1, .int x1), (2, .int x2), (3, .int x3), (6, .int x6), (8, .int x8), (9, .int x9), (10, .int x10), (11, .int x11), (12, .int x12), (13, .int x13), (14, .int x14), (15, .int x15), (16, .int x16), (17, .int x17)]) (hO : o_m_many_b476 orec st x1 x2 x3 x6 x8 x9 x10 x11 x12 x13 x14 x15 x16 x17) (X : CS × Int32) (hF : some X = m_many_b476 rec st x1 x2 x3 x6 x8 x9 x10 x11 x12 x13 x14 x15 x16 x17) : W p l e rm_m_many s m args below meth c H locs 0 0 (MQ below (cQi (gD g) vwCl (mty g) (mw g) A X.1 X.2) args s 0 0 A) (F0 m 476 ls []) := by
  obtain ⟨hx, hb, hr, hml, hown, hts, hlocks, hK, hA, hZ, hzo⟩ := id C
  unfold m_many_b476 at hF
  unfold o_m_many_b476 at hO
  refine lv_goto (tgt := 600) hx hb dX11_many_476 (by decide) ?_
  exact k_m_many_b600 g C rec orec hrec st x1 x2 x3 x6 x8 x9 x10 x11 x12 x13 x14 x15 x16 x17 H locs ls hI (lv_sub hl [0, 1, 2, 3, 4, 5, 6, 7, 8, 9, 10, 11, 12, 13, 14] rfl) hO X hF
def m_many_b457 (rec : CS → Int32 → Int32 → Int32 → Int32 → Int32 → Int32 → Int32 → Int32 → Int32 → Int32 → Int32 → Int32 → Int32 → Int32 → Option (CS × Int32)) (st : CS) (x1 : Int32) (x2 : Int32) (x3 : Int32) (x6 : Int32) (x8 : Int32) (x9 : Int32) (x10 : Int32) (x11 : Int32) (x12 : Int32) (x13 : Int32) (x14 : Int32) (x15 : Int32) (x17 : Int32) (x19 : Int32) (y0 : Int32) : Option (CS × Int32) := (if ((15 : Int32) ≤ x17) then (m_many_b600 rec (sI st 3 (y0 &&& (67108860 : Int32))) x1 x2 x3 x6 x8 x9 x10 x11 x12 x13 x14 x15 y0 x17) else (m_many_b476 rec (m_give st x19 x17 y0) x1 x2 x3 x6 x8 x9 x10 x11 x12 x13 x14 x15 y0 x17))
def o_m_many_b457 (orec : CS → Int32 → Int32 → Int32 → Int32 → Int32 → Int32 → Int32 → Int32 → Int32 → Int32 → Int32 → Int32 → Int32 → Int32 → Prop) (st : CS) (x1 : Int32) (x2 : Int32) (x3 : Int32) (x6 : Int32) (x8 : Int32) (x9 : Int32) (x10 : Int32) (x11 : Int32) (x12 : Int32) (x13 : Int32) (x14 : Int32) (x15 : Int32) (x17 : Int32) (x19 : Int32) (y0 : Int32) : Prop := ((((15 : Int32) ≤ x17) → (o_m_many_b600 orec (sI st 3 (y0 &&& (67108860 : Int32))) x1 x2 x3 x6 x8 x9 x10 x11 x12 x13 x14 x15 y0 x17)) ∧ (¬ ((15 : Int32) ≤ x17) → ((o_m_give st x19 x17 y0) ∧ (o_m_many_b476 orec (m_give st x19 x17 y0) x1 x2 x3 x6 x8 x9 x10 x11 x12 x13 x14 x15 y0 x17))))
set_option maxHeartbeats 4000000 in
set_option maxRecDepth 100000 in
theorem k_m_many_b457 {p : Program} {l : Launch} {e : Env} {s : State} {m : MethodId} {args : Array Value} {below : List Frame} {meth : Method} {c : Code} {A : Nat → Prop} (g : Gm) (C : cX p s m args meth c A cX11_many (some .int) 21 RX11 wq_X11_many (gD g) vwCl (mty g) (mz g)) (rec : CS → Int32 → Int32 → Int32 → Int32 → Int32 → Int32 → Int32 → Int32 → Int32 → Int32 → Int32 → Int32 → Int32 → Int32 → Option (CS × Int32)) (orec : CS → Int32 → Int32 → Int32 → Int32 → Int32 → Int32 → Int32 → Int32 → Int32 → Int32 → Int32 → Int32 → Int32 → Int32 → Prop) (hrec : ∀ (st : CS) (x1 : Int32) (x2 : Int32) (x3 : Int32) (x6 : Int32) (x8 : Int32) (x9 : Int32) (x10 : Int32) (x11 : Int32) (x12 : Int32) (x13 : Int32) (x14 : Int32) (x15 : Int32) (x16 : Int32) (x17 : Int32) (H : Heap) (locs : List Loc) (ls : Array Slot), cI (gD g) vwCl (mw g) A s st H locs → lv_has ls 21 [(0, .ref (gad g 0)), (1, .int x1), (2, .int x2), (3, .int x3), (6, .int x6), (8, .int x8), (9, .int x9), (10, .int x10), (11, .int x11), (12, .int x12), (13, .int x13), (14, .int x14), (15, .int x15), (16, .int x16), (17, .int x17)] → orec st x1 x2 x3 x6 x8 x9 x10 x11 x12 x13 x14 x15 x16 x17 → ∀ (X : CS × Int32), some X = rec st x1 x2 x3 x6 x8 x9 x10 x11 x12 x13 x14 x15 x16 x17 → W p l e rm_m_many s m args below meth c H locs 0 0 (MQ below (cQi (gD g) vwCl (mty g) (mw g) A X.1 X.2) args s 0 0 A) (F0 m 376 ls [])) (st : CS) (x1 : Int32) (x2 : Int32) (x3 : Int32) (x6 : Int32) (x8 : Int32) (x9 : Int32) (x10 : Int32) (x11 : Int32) (x12 : Int32) (x13 : Int32) (x14 : Int32) (x15 : Int32) (x17 : Int32) (x19 : Int32) (y0 : Int32) (H : Heap) (locs : List Loc) (ls : Array Slot) (hI : cI (gD g) vwCl (mw g) A s st H locs) (hl : lv_has ls 21 [(0, .ref (gad g 0)), (1, .int x1), (2, .int x2), (3, .int x3), (6, .int x6), (8, .int x8), (9, .int x9), (10, .int x10), (11, .int x11), (12, .int x12), (13, .int x13), (14, .int x14), (15, .int x15), (17, .int x17), (19, .int x19)]) (hO : o_m_many_b457 orec st x1 x2 x3 x6 x8 x9 x10 x11 x12 x13 x14 x15 x17 x19 y0) (X : CS × Int32) (hF : some X = m_many_b457 rec st x1 x2 x3 x6 x8 x9 x10 x11 x12 x13 x14 x15 x17 x19 y0) : W p l e rm_m_many s m args below meth c H locs 0 0 (MQ below (cQi (gD g) vwCl (mty g) (mw g) A X.1 X.2) args s 0 0 A) (F0 m 457 ls [.int y0]) := by
  obtain ⟨hx, hb, hr, hml, hown, hts, hlocks, hK, hA, hZ, hzo⟩ := id C
  unfold m_many_b457 at hF
  unfold o_m_many_b457 at hO
  refine lv_istore (lv' := [(16, .int y0), (0, .ref (gad g 0)), (1, .int x1), (2, .int x2), (3, .int x3), (6, .int x6), (8, .int x8), (9, .int x9), (10, .int x10), (11, .int x11), (12, .int x12), (13, .int x13), (14, .int x14), (15, .int x15), (17, .int x17), (19, .int x19)]) hx hb dX11_many_457 hl (by decide) rfl (fun ls hl => ?_)
  refine lv_iload hx hb dX11_many_459 (lv_at hl 14 rfl) ?_
  refine lv_bipush (v := (15 : Int32)) hx hb dX11_many_461 (by decide) ?_
  refine lv_icmp_ge (tgt := 479) hx hb dX11_many_463 (by decide) (fun c_463 => ?_) (fun c_463 => ?_)
  · have hF := hF.trans (if_pos c_463)
    have hO := hO.1 c_463
    refine lv_aload_n hx hb dX11_many_479 rfl (lv_at hl 1 rfl) ?_
    refine lv_iload hx hb dX11_many_480 (lv_at hl 0 rfl) ?_
    refine lv_ldc (v := (67108860 : Int32)) hx hb hown (hts _ (List.mem_cons_of_mem _ mw748)) dX11_many_482 ?_
    refine lv_iand hx hb dX11_many_484 ?_
    refine va_put (D := gD g) (ci := 11) (C := RX11) (T := TX11) (N := 50) (v := .int (y0 &&& (67108860 : Int32))) (ty := .int) hx hb hts (fun w h => List.mem_cons_of_mem _ (isX110 w h)) tyX11 tyX11_ok nmX11 hown hK hI.1 hI.2.1 hI.2.2 0 rfl rfl 7 (by decide) (hts _ (List.mem_cons_of_mem _ mw750)) (fun _ h9 => h9) rfl (by decide +kernel) rfl rfl (Nat.le_of_ble_eq_true rfl) dX11_many_485 (fun H locs hP hD hS => ?_)
    have hI : cI (gD g) vwCl (mw g) A s (sI st 3 (y0 &&& (67108860 : Int32))) H locs := ⟨hP, hD, hS⟩
    refine lv_goto (tgt := 600) hx hb dX11_many_488 (by decide) ?_
    exact k_m_many_b600 g C rec orec hrec (sI st 3 (y0 &&& (67108860 : Int32))) x1 x2 x3 x6 x8 x9 x10 x11 x12 x13 x14 x15 y0 x17 H locs ls hI (lv_sub hl [1, 2, 3, 4, 5, 6, 7, 8, 9, 10, 11, 12, 13, 0, 14] rfl) hO X hF
  · have hF := hF.trans (if_neg c_463)
    have hO := hO.2 c_463
    refine lv_aload_n hx hb dX11_many_466 rfl (lv_at hl 1 rfl) ?_
    refine lv_iload hx hb dX11_many_467 (lv_at hl 15 rfl) ?_
    refine lv_iload hx hb dX11_many_469 (lv_at hl 14 rfl) ?_
    refine lv_iload hx hb dX11_many_471 (lv_at hl 0 rfl) ?_
    have hq_473_0 := hO.1
    have hO := hO.2
    refine cx_Vv (As := [.int x19, .int x17, .int y0]) (rest := []) C (c_m_give l g st x19 x17 y0 hq_473_0) (cwV 3 hts (gd_V _ mw777 mw778 mw779 mw3 mw780) rfl rfl rfl yd_yX11_give ⟨Nat.le_of_ble_eq_true rfl, Nat.le_of_ble_eq_true rfl⟩) (va_recv hK hI.1 (ci := 11) (q0 := 0) rfl rfl) hI rfl hl.1 rfl (Nat.le_of_ble_eq_true rfl) dX11_many_473 (fun H locs hI => ?_)
    exact k_m_many_b476 g C rec orec hrec (m_give st x19 x17 y0) x1 x2 x3 x6 x8 x9 x10 x11 x12 x13 x14 x15 y0 x17 H locs ls hI (lv_sub hl [1, 2, 3, 4, 5, 6, 7, 8, 9, 10, 11, 12, 13, 0, 14] rfl) hO X hF
def m_many_b442 (rec : CS → Int32 → Int32 → Int32 → Int32 → Int32 → Int32 → Int32 → Int32 → Int32 → Int32 → Int32 → Int32 → Int32 → Int32 → Option (CS × Int32)) (st : CS) (x1 : Int32) (x2 : Int32) (x3 : Int32) (x6 : Int32) (x8 : Int32) (x9 : Int32) (x10 : Int32) (x11 : Int32) (x12 : Int32) (x13 : Int32) (x14 : Int32) (x15 : Int32) (x17 : Int32) (x19 : Int32) (y0 : Int32) : Option (CS × Int32) := (m_many_b457 rec st x1 x2 x3 x6 x8 x9 x10 x11 x12 x13 x14 x15 x17 x19 y0)
def o_m_many_b442 (orec : CS → Int32 → Int32 → Int32 → Int32 → Int32 → Int32 → Int32 → Int32 → Int32 → Int32 → Int32 → Int32 → Int32 → Int32 → Prop) (st : CS) (x1 : Int32) (x2 : Int32) (x3 : Int32) (x6 : Int32) (x8 : Int32) (x9 : Int32) (x10 : Int32) (x11 : Int32) (x12 : Int32) (x13 : Int32) (x14 : Int32) (x15 : Int32) (x17 : Int32) (x19 : Int32) (y0 : Int32) : Prop := (o_m_many_b457 orec st x1 x2 x3 x6 x8 x9 x10 x11 x12 x13 x14 x15 x17 x19 y0)
set_option maxHeartbeats 4000000 in
set_option maxRecDepth 100000 in
theorem k_m_many_b442 {p : Program} {l : Launch} {e : Env} {s : State} {m : MethodId} {args : Array Value} {below : List Frame} {meth : Method} {c : Code} {A : Nat → Prop} (g : Gm) (C : cX p s m args meth c A cX11_many (some .int) 21 RX11 wq_X11_many (gD g) vwCl (mty g) (mz g)) (rec : CS → Int32 → Int32 → Int32 → Int32 → Int32 → Int32 → Int32 → Int32 → Int32 → Int32 → Int32 → Int32 → Int32 → Int32 → Option (CS × Int32)) (orec : CS → Int32 → Int32 → Int32 → Int32 → Int32 → Int32 → Int32 → Int32 → Int32 → Int32 → Int32 → Int32 → Int32 → Int32 → Prop) (hrec : ∀ (st : CS) (x1 : Int32) (x2 : Int32) (x3 : Int32) (x6 : Int32) (x8 : Int32) (x9 : Int32) (x10 : Int32) (x11 : Int32) (x12 : Int32) (x13 : Int32) (x14 : Int32) (x15 : Int32) (x16 : Int32) (x17 : Int32) (H : Heap) (locs : List Loc) (ls : Array Slot), cI (gD g) vwCl (mw g) A s st H locs → lv_has ls 21 [(0, .ref (gad g 0)), (1, .int x1), (2, .int x2), (3, .int x3), (6, .int x6), (8, .int x8), (9, .int x9), (10, .int x10), (11, .int x11), (12, .int x12), (13, .int x13), (14, .int x14), (15, .int x15), (16, .int x16), (17, .int x17)] → orec st x1 x2 x3 x6 x8 x9 x10 x11 x12 x13 x14 x15 x16 x17 → ∀ (X : CS × Int32), some X = rec st x1 x2 x3 x6 x8 x9 x10 x11 x12 x13 x14 x15 x16 x17 → W p l e rm_m_many s m args below meth c H locs 0 0 (MQ below (cQi (gD g) vwCl (mty g) (mw g) A X.1 X.2) args s 0 0 A) (F0 m 376 ls [])) (st : CS) (x1 : Int32) (x2 : Int32) (x3 : Int32) (x6 : Int32) (x8 : Int32) (x9 : Int32) (x10 : Int32) (x11 : Int32) (x12 : Int32) (x13 : Int32) (x14 : Int32) (x15 : Int32) (x17 : Int32) (x19 : Int32) (y0 : Int32) (H : Heap) (locs : List Loc) (ls : Array Slot) (hI : cI (gD g) vwCl (mw g) A s st H locs) (hl : lv_has ls 21 [(0, .ref (gad g 0)), (1, .int x1), (2, .int x2), (3, .int x3), (6, .int x6), (8, .int x8), (9, .int x9), (10, .int x10), (11, .int x11), (12, .int x12), (13, .int x13), (14, .int x14), (15, .int x15), (17, .int x17), (19, .int x19)]) (hO : o_m_many_b442 orec st x1 x2 x3 x6 x8 x9 x10 x11 x12 x13 x14 x15 x17 x19 y0) (X : CS × Int32) (hF : some X = m_many_b442 rec st x1 x2 x3 x6 x8 x9 x10 x11 x12 x13 x14 x15 x17 x19 y0) : W p l e rm_m_many s m args below meth c H locs 0 0 (MQ below (cQi (gD g) vwCl (mty g) (mw g) A X.1 X.2) args s 0 0 A) (F0 m 442 ls [.int y0]) := by
  obtain ⟨hx, hb, hr, hml, hown, hts, hlocks, hK, hA, hZ, hzo⟩ := id C
  unfold m_many_b442 at hF
  unfold o_m_many_b442 at hO
  refine lv_goto (tgt := 457) hx hb dX11_many_442 (by decide) ?_
  exact k_m_many_b457 g C rec orec hrec st x1 x2 x3 x6 x8 x9 x10 x11 x12 x13 x14 x15 x17 x19 y0 H locs ls hI (lv_sub hl [0, 1, 2, 3, 4, 5, 6, 7, 8, 9, 10, 11, 12, 13, 14] rfl) hO X hF
def m_many_b418 (rec : CS → Int32 → Int32 → Int32 → Int32 → Int32 → Int32 → Int32 → Int32 → Int32 → Int32 → Int32 → Int32 → Int32 → Int32 → Option (CS × Int32)) (st : CS) (x1 : Int32) (x2 : Int32) (x3 : Int32) (x6 : Int32) (x8 : Int32) (x9 : Int32) (x10 : Int32) (x11 : Int32) (x12 : Int32) (x13 : Int32) (x14 : Int32) (x15 : Int32) (x16 : Int32) (x17 : Int32) (x18 : Int32) (y0 : Int32) : Option (CS × Int32) := (if (x8 = 0) then (if (x17 = (15 : Int32)) then (m_many_b523 rec st x1 x2 x3 x6 x8 x9 x10 x11 x12 x13 x14 x15 x16 x17 x18 (((gI st 1) &&& (-67108861 : Int32)) ||| (m_ahead st (12 : Int32)))) else (m_many_b523 rec st x1 x2 x3 x6 x8 x9 x10 x11 x12 x13 x14 x15 x16 x17 x18 (m_get st y0 x17))) else (if (((gA st 4) x15.toNatClampNeg) = (-1 : Int32)) then (m_many_b442 rec (m_readFar st x18).1 x1 x2 x3 x6 x8 x9 x10 x11 x12 x13 x14 x15 x17 y0 (m_readFar st x18).2) else (m_many_b457 rec st x1 x2 x3 x6 x8 x9 x10 x11 x12 x13 x14 x15 x17 y0 ((gA st 5) ((gA st 4) x15.toNatClampNeg).toNatClampNeg))))
def o_m_many_b418 (orec : CS → Int32 → Int32 → Int32 → Int32 → Int32 → Int32 → Int32 → Int32 → Int32 → Int32 → Int32 → Int32 → Int32 → Int32 → Prop) (st : CS) (x1 : Int32) (x2 : Int32) (x3 : Int32) (x6 : Int32) (x8 : Int32) (x9 : Int32) (x10 : Int32) (x11 : Int32) (x12 : Int32) (x13 : Int32) (x14 : Int32) (x15 : Int32) (x16 : Int32) (x17 : Int32) (x18 : Int32) (y0 : Int32) : Prop := (((x8 = 0) → (((x17 = (15 : Int32)) → (o_m_many_b523 orec st x1 x2 x3 x6 x8 x9 x10 x11 x12 x13 x14 x15 x16 x17 x18 (((gI st 1) &&& (-67108861 : Int32)) ||| (m_ahead st (12 : Int32))))) ∧ (¬ (x17 = (15 : Int32)) → ((o_m_get st y0 x17) ∧ (o_m_many_b523 orec st x1 x2 x3 x6 x8 x9 x10 x11 x12 x13 x14 x15 x16 x17 x18 (m_get st y0 x17)))))) ∧ (¬ (x8 = 0) → (vp_in x15 16 ∧ (((((gA st 4) x15.toNatClampNeg) = (-1 : Int32)) → ((o_m_readFar st x18) ∧ (o_m_many_b442 orec (m_readFar st x18).1 x1 x2 x3 x6 x8 x9 x10 x11 x12 x13 x14 x15 x17 y0 (m_readFar st x18).2))) ∧ (¬ (((gA st 4) x15.toNatClampNeg) = (-1 : Int32)) → (vp_in x15 16 ∧ (vp_in ((gA st 4) x15.toNatClampNeg) 16384 ∧ (o_m_many_b457 orec st x1 x2 x3 x6 x8 x9 x10 x11 x12 x13 x14 x15 x17 y0 ((gA st 5) ((gA st 4) x15.toNatClampNeg).toNatClampNeg)))))))))
set_option maxHeartbeats 4000000 in
set_option maxRecDepth 100000 in
theorem k_m_many_b418 {p : Program} {l : Launch} {e : Env} {s : State} {m : MethodId} {args : Array Value} {below : List Frame} {meth : Method} {c : Code} {A : Nat → Prop} (g : Gm) (C : cX p s m args meth c A cX11_many (some .int) 21 RX11 wq_X11_many (gD g) vwCl (mty g) (mz g)) (rec : CS → Int32 → Int32 → Int32 → Int32 → Int32 → Int32 → Int32 → Int32 → Int32 → Int32 → Int32 → Int32 → Int32 → Int32 → Option (CS × Int32)) (orec : CS → Int32 → Int32 → Int32 → Int32 → Int32 → Int32 → Int32 → Int32 → Int32 → Int32 → Int32 → Int32 → Int32 → Int32 → Prop) (hrec : ∀ (st : CS) (x1 : Int32) (x2 : Int32) (x3 : Int32) (x6 : Int32) (x8 : Int32) (x9 : Int32) (x10 : Int32) (x11 : Int32) (x12 : Int32) (x13 : Int32) (x14 : Int32) (x15 : Int32) (x16 : Int32) (x17 : Int32) (H : Heap) (locs : List Loc) (ls : Array Slot), cI (gD g) vwCl (mw g) A s st H locs → lv_has ls 21 [(0, .ref (gad g 0)), (1, .int x1), (2, .int x2), (3, .int x3), (6, .int x6), (8, .int x8), (9, .int x9), (10, .int x10), (11, .int x11), (12, .int x12), (13, .int x13), (14, .int x14), (15, .int x15), (16, .int x16), (17, .int x17)] → orec st x1 x2 x3 x6 x8 x9 x10 x11 x12 x13 x14 x15 x16 x17 → ∀ (X : CS × Int32), some X = rec st x1 x2 x3 x6 x8 x9 x10 x11 x12 x13 x14 x15 x16 x17 → W p l e rm_m_many s m args below meth c H locs 0 0 (MQ below (cQi (gD g) vwCl (mty g) (mw g) A X.1 X.2) args s 0 0 A) (F0 m 376 ls [])) (st : CS) (x1 : Int32) (x2 : Int32) (x3 : Int32) (x6 : Int32) (x8 : Int32) (x9 : Int32) (x10 : Int32) (x11 : Int32) (x12 : Int32) (x13 : Int32) (x14 : Int32) (x15 : Int32) (x16 : Int32) (x17 : Int32) (x18 : Int32) (y0 : Int32) (H : Heap) (locs : List Loc) (ls : Array Slot) (hI : cI (gD g) vwCl (mw g) A s st H locs) (hl : lv_has ls 21 [(0, .ref (gad g 0)), (1, .int x1), (2, .int x2), (3, .int x3), (6, .int x6), (8, .int x8), (9, .int x9), (10, .int x10), (11, .int x11), (12, .int x12), (13, .int x13), (14, .int x14), (15, .int x15), (16, .int x16), (17, .int x17), (18, .int x18)]) (hO : o_m_many_b418 orec st x1 x2 x3 x6 x8 x9 x10 x11 x12 x13 x14 x15 x16 x17 x18 y0) (X : CS × Int32) (hF : some X = m_many_b418 rec st x1 x2 x3 x6 x8 x9 x10 x11 x12 x13 x14 x15 x16 x17 x18 y0) : W p l e rm_m_many s m args below meth c H locs 0 0 (MQ below (cQi (gD g) vwCl (mty g) (mw g) A X.1 X.2) args s 0 0 A) (F0 m 418 ls [.int y0]) := by
  obtain ⟨hx, hb, hr, hml, hown, hts, hlocks, hK, hA, hZ, hzo⟩ := id C
  unfold m_many_b418 at hF
  unfold o_m_many_b418 at hO
  refine lv_istore (lv' := [(19, .int y0), (0, .ref (gad g 0)), (1, .int x1), (2, .int x2), (3, .int x3), (6, .int x6), (8, .int x8), (9, .int x9), (10, .int x10), (11, .int x11), (12, .int x12), (13, .int x13), (14, .int x14), (15, .int x15), (16, .int x16), (17, .int x17), (18, .int x18)]) hx hb dX11_many_418 hl (by decide) rfl (fun ls hl => ?_)
  refine lv_iload hx hb dX11_many_420 (lv_at hl 6 rfl) ?_
  refine lv_if_eq (tgt := 491) hx hb dX11_many_422 (by decide) (fun c_422 => ?_) (fun c_422 => ?_)
  · have hF := hF.trans (if_pos c_422)
    have hO := hO.1 c_422
    refine lv_iload hx hb dX11_many_491 (lv_at hl 15 rfl) ?_
    refine lv_bipush (v := (15 : Int32)) hx hb dX11_many_493 (by decide) ?_
    refine lv_icmp_ne (tgt := 515) hx hb dX11_many_495 (by decide) (fun c_495 => ?_) (fun c_495 => ?_)
    · have hF := hF.trans (if_neg c_495)
      have hO := hO.2 c_495
      refine lv_aload_n hx hb dX11_many_515 rfl (lv_at hl 1 rfl) ?_
      refine lv_iload hx hb dX11_many_516 (lv_at hl 0 rfl) ?_
      refine lv_iload hx hb dX11_many_518 (lv_at hl 15 rfl) ?_
      have hq_520_0 := hO.1
      have hO := hO.2
      refine cx_Vi (As := [.int y0, .int x17]) (rest := []) C (c_m_get l g st y0 x17 hq_520_0) (cwV 2 hts (gd_V _ mw830 mw831 mw832 mw3 mw833) rfl rfl rfl yd_yX11_get ⟨Nat.le_of_ble_eq_true rfl, Nat.le_of_ble_eq_true rfl⟩) (va_recv hK hI.1 (ci := 11) (q0 := 0) rfl rfl) hI rfl hl.1 rfl (Nat.le_of_ble_eq_true rfl) dX11_many_520 (fun H locs hI => ?_)
      exact k_m_many_b523 g C rec orec hrec st x1 x2 x3 x6 x8 x9 x10 x11 x12 x13 x14 x15 x16 x17 x18 (m_get st y0 x17) H locs ls hI (lv_sub hl [1, 2, 3, 4, 5, 6, 7, 8, 9, 10, 11, 12, 13, 14, 15, 16] rfl) hO X hF
    · have hF := hF.trans (if_pos c_495)
      have hO := hO.1 c_495
      refine lv_aload_n hx hb dX11_many_498 rfl (lv_at hl 1 rfl) ?_
      refine va_get (D := gD g) (ci := 11) (C := RX11) (T := TX11) (N := 50) (v := .int (gI st 1)) hx hb hts (fun w h => List.mem_cons_of_mem _ (isX110 w h)) hown hK hI.1 0 rfl rfl 5 (by decide) (hts _ (List.mem_cons_of_mem _ mw210)) (fun _ h9 => h9) rfl dX11_many_499 ?_
      refine lv_ldc (v := (-67108861 : Int32)) hx hb hown (hts _ (List.mem_cons_of_mem _ mw752)) dX11_many_502 ?_
      refine lv_iand hx hb dX11_many_504 ?_
      refine lv_aload_n hx hb dX11_many_505 rfl (lv_at hl 1 rfl) ?_
      refine lv_bipush (v := (12 : Int32)) hx hb dX11_many_506 (by decide) ?_
      refine cx_Vi (As := [.int (12 : Int32)]) (rest := [.int ((gI st 1) &&& (-67108861 : Int32))]) C (c_m_ahead l g st (12 : Int32)) (cwV 1 hts (gd_V _ mw769 mw770 mw771 mw3 mw772) rfl rfl rfl yd_yX11_ahead ⟨Nat.le_of_ble_eq_true rfl, Nat.le_of_ble_eq_true rfl⟩) (va_recv hK hI.1 (ci := 11) (q0 := 0) rfl rfl) hI rfl hl.1 rfl (Nat.le_of_ble_eq_true rfl) dX11_many_508 (fun H locs hI => ?_)
      refine lv_ior hx hb dX11_many_511 ?_
      refine lv_goto (tgt := 523) hx hb dX11_many_512 (by decide) ?_
      exact k_m_many_b523 g C rec orec hrec st x1 x2 x3 x6 x8 x9 x10 x11 x12 x13 x14 x15 x16 x17 x18 (((gI st 1) &&& (-67108861 : Int32)) ||| (m_ahead st (12 : Int32))) H locs ls hI (lv_sub hl [1, 2, 3, 4, 5, 6, 7, 8, 9, 10, 11, 12, 13, 14, 15, 16] rfl) hO X hF
  · have hF := hF.trans (if_neg c_422)
    have hO := hO.2 c_422
    refine lv_aload_n hx hb dX11_many_425 rfl (lv_at hl 1 rfl) ?_
    refine va_get (D := gD g) (ci := 11) (C := RX11) (T := TX11) (N := 50) (v := .ref (gad g 5)) hx hb hts (fun w h => List.mem_cons_of_mem _ (isX110 w h)) hown hK hI.1 0 rfl rfl 9 (by decide) (hts _ (List.mem_cons_of_mem _ mw189)) (fun _ h9 => h9) rfl dX11_many_426 ?_
    refine lv_iload hx hb dX11_many_429 (lv_at hl 13 rfl) ?_
    have hq_431_0 := hO.1
    have hO := hO.2
    refine va_iald (f := (gA st 4)) hx hb hK hI.1 5 4 rfl rfl hq_431_0 dX11_many_431 ?_
    refine lv_iconst (v := (-1 : Int32)) hx hb dX11_many_432 (by decide) ?_
    refine lv_icmp_ne (tgt := 445) hx hb dX11_many_433 (by decide) (fun c_433 => ?_) (fun c_433 => ?_)
    · have hF := hF.trans (if_neg c_433)
      have hO := hO.2 c_433
      refine lv_aload_n hx hb dX11_many_445 rfl (lv_at hl 1 rfl) ?_
      refine va_get (D := gD g) (ci := 11) (C := RX11) (T := TX11) (N := 50) (v := .ref (gad g 6)) hx hb hts (fun w h => List.mem_cons_of_mem _ (isX110 w h)) hown hK hI.1 0 rfl rfl 10 (by decide) (hts _ (List.mem_cons_of_mem _ mw190)) (fun _ h9 => h9) rfl dX11_many_446 ?_
      refine lv_aload_n hx hb dX11_many_449 rfl (lv_at hl 1 rfl) ?_
      refine va_get (D := gD g) (ci := 11) (C := RX11) (T := TX11) (N := 50) (v := .ref (gad g 5)) hx hb hts (fun w h => List.mem_cons_of_mem _ (isX110 w h)) hown hK hI.1 0 rfl rfl 9 (by decide) (hts _ (List.mem_cons_of_mem _ mw189)) (fun _ h9 => h9) rfl dX11_many_450 ?_
      refine lv_iload hx hb dX11_many_453 (lv_at hl 13 rfl) ?_
      have hq_455_0 := hO.1
      have hO := hO.2
      refine va_iald (f := (gA st 4)) hx hb hK hI.1 5 4 rfl rfl hq_455_0 dX11_many_455 ?_
      have hq_456_1 := hO.1
      have hO := hO.2
      refine va_iald (f := (gA st 5)) hx hb hK hI.1 6 5 rfl rfl hq_456_1 dX11_many_456 ?_
      exact k_m_many_b457 g C rec orec hrec st x1 x2 x3 x6 x8 x9 x10 x11 x12 x13 x14 x15 x17 y0 ((gA st 5) ((gA st 4) x15.toNatClampNeg).toNatClampNeg) H locs ls hI (lv_sub hl [1, 2, 3, 4, 5, 6, 7, 8, 9, 10, 11, 12, 13, 15, 0] rfl) hO X hF
    · have hF := hF.trans (if_pos c_433)
      have hO := hO.1 c_433
      refine lv_aload_n hx hb dX11_many_436 rfl (lv_at hl 1 rfl) ?_
      refine lv_iload hx hb dX11_many_437 (lv_at hl 16 rfl) ?_
      have hq_439_0 := hO.1
      have hO := hO.2
      refine cx_Vi (As := [.int x18]) (rest := []) C (c_m_readFar l g st x18 hq_439_0) (cwV 1 hts (gd_V _ mw877 mw878 mw879 mw3 mw880) rfl rfl rfl yd_yX11_readFar ⟨Nat.le_of_ble_eq_true rfl, Nat.le_of_ble_eq_true rfl⟩) (va_recv hK hI.1 (ci := 11) (q0 := 0) rfl rfl) hI rfl hl.1 rfl (Nat.le_of_ble_eq_true rfl) dX11_many_439 (fun H locs hI => ?_)
      exact k_m_many_b442 g C rec orec hrec (m_readFar st x18).1 x1 x2 x3 x6 x8 x9 x10 x11 x12 x13 x14 x15 x17 y0 (m_readFar st x18).2 H locs ls hI (lv_sub hl [1, 2, 3, 4, 5, 6, 7, 8, 9, 10, 11, 12, 13, 15, 0] rfl) hO X hF
def m_many_b376 : Nat → CS → Int32 → Int32 → Int32 → Int32 → Int32 → Int32 → Int32 → Int32 → Int32 → Int32 → Int32 → Int32 → Int32 → Int32 → Option (CS × Int32)
  | 0, _, _, _, _, _, _, _, _, _, _, _, _, _, _, _ => none
  | n + 1, st, x1, x2, x3, x6, x8, x9, x10, x11, x12, x13, x14, x15, x16, x17 => (if ((16 : Int32) ≤ x17) then (if (x8 = 0) then (some (m_many_b630 st x2 x8 x9)) else (if (x9 = 0) then (some (m_many_b630 st x2 x8 x9)) else (if (x6 = 0) then (some (m_many_b630 st x2 x8 x9)) else (some (m_many_b630 (m_setSigns st x16) x2 x8 x9))))) else (if (((x1 >>> (x17 &&& 31)) &&& (1 : Int32)) = 0) then (m_many_b603 (m_many_b376 n) st x1 x2 x3 x6 x8 x9 x10 x11 x12 x13 x14 x15 x16 x17) else (if (x14 = 0) then (m_many_b418 (m_many_b376 n) st x1 x2 x3 x6 x8 x9 x10 x11 x12 x13 x14 x15 x16 x17 ((x12 + ((4 : Int32) * x15)) &&& (67108860 : Int32)) x13) else (m_many_b418 (m_many_b376 n) st x1 x2 x3 x6 x8 x9 x10 x11 x12 x13 x14 x15 x16 x17 ((x12 + ((4 : Int32) * x15)) &&& (67108860 : Int32)) (0 : Int32)))))
def o_m_many_b376 : Nat → CS → Int32 → Int32 → Int32 → Int32 → Int32 → Int32 → Int32 → Int32 → Int32 → Int32 → Int32 → Int32 → Int32 → Int32 → Prop
  | 0, _, _, _, _, _, _, _, _, _, _, _, _, _, _, _ => True
  | n + 1, st, x1, x2, x3, x6, x8, x9, x10, x11, x12, x13, x14, x15, x16, x17 => ((((16 : Int32) ≤ x17) → True) ∧ (¬ ((16 : Int32) ≤ x17) → (((((x1 >>> (x17 &&& 31)) &&& (1 : Int32)) = 0) → (o_m_many_b603 (o_m_many_b376 n) st x1 x2 x3 x6 x8 x9 x10 x11 x12 x13 x14 x15 x16 x17)) ∧ (¬ (((x1 >>> (x17 &&& 31)) &&& (1 : Int32)) = 0) → (((x14 = 0) → (o_m_many_b418 (o_m_many_b376 n) st x1 x2 x3 x6 x8 x9 x10 x11 x12 x13 x14 x15 x16 x17 ((x12 + ((4 : Int32) * x15)) &&& (67108860 : Int32)) x13)) ∧ (¬ (x14 = 0) → (o_m_many_b418 (o_m_many_b376 n) st x1 x2 x3 x6 x8 x9 x10 x11 x12 x13 x14 x15 x16 x17 ((x12 + ((4 : Int32) * x15)) &&& (67108860 : Int32)) (0 : Int32))))))))
set_option maxHeartbeats 4000000 in
set_option maxRecDepth 100000 in
theorem k_m_many_b376 {p : Program} {l : Launch} {e : Env} {s : State} {m : MethodId} {args : Array Value} {below : List Frame} {meth : Method} {c : Code} {A : Nat → Prop} (g : Gm) (C : cX p s m args meth c A cX11_many (some .int) 21 RX11 wq_X11_many (gD g) vwCl (mty g) (mz g)) : ∀ (n : Nat) (st : CS) (x1 : Int32) (x2 : Int32) (x3 : Int32) (x6 : Int32) (x8 : Int32) (x9 : Int32) (x10 : Int32) (x11 : Int32) (x12 : Int32) (x13 : Int32) (x14 : Int32) (x15 : Int32) (x16 : Int32) (x17 : Int32) (H : Heap) (locs : List Loc) (ls : Array Slot), cI (gD g) vwCl (mw g) A s st H locs → lv_has ls 21 [(0, .ref (gad g 0)), (1, .int x1), (2, .int x2), (3, .int x3), (6, .int x6), (8, .int x8), (9, .int x9), (10, .int x10), (11, .int x11), (12, .int x12), (13, .int x13), (14, .int x14), (15, .int x15), (16, .int x16), (17, .int x17)] → o_m_many_b376 n st x1 x2 x3 x6 x8 x9 x10 x11 x12 x13 x14 x15 x16 x17 → ∀ (X : CS × Int32), some X = m_many_b376 n st x1 x2 x3 x6 x8 x9 x10 x11 x12 x13 x14 x15 x16 x17 → W p l e rm_m_many s m args below meth c H locs 0 0 (MQ below (cQi (gD g) vwCl (mty g) (mw g) A X.1 X.2) args s 0 0 A) (F0 m 376 ls []) := by
  obtain ⟨hx, hb, hr, hml, hown, hts, hlocks, hK, hA, hZ, hzo⟩ := id C
  intro n
  induction n with
  | zero => intro st x1 x2 x3 x6 x8 x9 x10 x11 x12 x13 x14 x15 x16 x17 H locs ls hI hl hO X hF; exact absurd hF (by simp [m_many_b376])
  | succ n ih =>
    intro st x1 x2 x3 x6 x8 x9 x10 x11 x12 x13 x14 x15 x16 x17 H locs ls hI hl hO X hF
    rw [m_many_b376] at hF
    rw [o_m_many_b376] at hO
    refine lv_iload hx hb dX11_many_376 (lv_at hl 14 rfl) ?_
    refine lv_bipush (v := (16 : Int32)) hx hb dX11_many_378 (by decide) ?_
    refine lv_icmp_ge (tgt := 609) hx hb dX11_many_380 (by decide) (fun c_380 => ?_) (fun c_380 => ?_)
    · have hF := hF.trans (if_pos c_380)
      have hO := hO.1 c_380
      refine lv_iload hx hb dX11_many_609 (lv_at hl 5 rfl) ?_
      refine lv_if_eq (tgt := 630) hx hb dX11_many_611 (by decide) (fun c_611 => ?_) (fun c_611 => ?_)
      · have hF := hF.trans (if_pos c_611)
        have hF := Option.some.inj hF
        exact k_m_many_b630 g C st x2 x8 x9 H locs ls hI (lv_sub hl [0, 2, 5, 6] rfl) X hF
      · have hF := hF.trans (if_neg c_611)
        refine lv_iload hx hb dX11_many_614 (lv_at hl 6 rfl) ?_
        refine lv_if_eq (tgt := 630) hx hb dX11_many_616 (by decide) (fun c_616 => ?_) (fun c_616 => ?_)
        · have hF := hF.trans (if_pos c_616)
          have hF := Option.some.inj hF
          exact k_m_many_b630 g C st x2 x8 x9 H locs ls hI (lv_sub hl [0, 2, 5, 6] rfl) X hF
        · have hF := hF.trans (if_neg c_616)
          refine lv_iload hx hb dX11_many_619 (lv_at hl 4 rfl) ?_
          refine lv_if_eq (tgt := 630) hx hb dX11_many_621 (by decide) (fun c_621 => ?_) (fun c_621 => ?_)
          · have hF := hF.trans (if_pos c_621)
            have hF := Option.some.inj hF
            exact k_m_many_b630 g C st x2 x8 x9 H locs ls hI (lv_sub hl [0, 2, 5, 6] rfl) X hF
          · have hF := hF.trans (if_neg c_621)
            refine lv_aload_n hx hb dX11_many_624 rfl (lv_at hl 0 rfl) ?_
            refine lv_iload hx hb dX11_many_625 (lv_at hl 13 rfl) ?_
            refine cx_Vv (As := [.int x16]) (rest := []) C (c_m_setSigns l g st x16) (cwV 1 hts (gd_V _ mw867 mw868 mw869 mw3 mw870) rfl rfl rfl yd_yX11_setSigns ⟨Nat.le_of_ble_eq_true rfl, Nat.le_of_ble_eq_true rfl⟩) (va_recv hK hI.1 (ci := 11) (q0 := 0) rfl rfl) hI rfl hl.1 rfl (Nat.le_of_ble_eq_true rfl) dX11_many_627 (fun H locs hI => ?_)
            have hF := Option.some.inj hF
            exact k_m_many_b630 g C (m_setSigns st x16) x2 x8 x9 H locs ls hI (lv_sub hl [0, 2, 5, 6] rfl) X hF
    · have hF := hF.trans (if_neg c_380)
      have hO := hO.2 c_380
      refine lv_iload_n hx hb dX11_many_383 rfl (lv_at hl 1 rfl) ?_
      refine lv_iload hx hb dX11_many_384 (lv_at hl 14 rfl) ?_
      refine lv_ishr hx hb dX11_many_386 ?_
      refine lv_iconst (v := (1 : Int32)) hx hb dX11_many_387 (by decide) ?_
      refine lv_iand hx hb dX11_many_388 ?_
      refine lv_if_ne (tgt := 395) hx hb dX11_many_389 (by decide) (fun c_389 => ?_) (fun c_389 => ?_)
      · have hF := hF.trans (if_neg c_389)
        have hO := hO.2 c_389
        refine lv_iload hx hb dX11_many_395 (lv_at hl 9 rfl) ?_
        refine lv_iconst (v := (4 : Int32)) hx hb dX11_many_397 (by decide) ?_
        refine lv_iload hx hb dX11_many_398 (lv_at hl 12 rfl) ?_
        refine lv_imul hx hb dX11_many_400 ?_
        refine lv_iadd hx hb dX11_many_401 ?_
        refine lv_ldc (v := (67108860 : Int32)) hx hb hown (hts _ (List.mem_cons_of_mem _ mw748)) dX11_many_402 ?_
        refine lv_iand hx hb dX11_many_404 ?_
        refine lv_istore (lv' := [(18, .int ((x12 + ((4 : Int32) * x15)) &&& (67108860 : Int32))), (0, .ref (gad g 0)), (1, .int x1), (2, .int x2), (3, .int x3), (6, .int x6), (8, .int x8), (9, .int x9), (10, .int x10), (11, .int x11), (12, .int x12), (13, .int x13), (14, .int x14), (15, .int x15), (16, .int x16), (17, .int x17)]) hx hb dX11_many_405 hl (by decide) rfl (fun ls hl => ?_)
        refine lv_iload hx hb dX11_many_407 (lv_at hl 12 rfl) ?_
        refine lv_if_eq (tgt := 416) hx hb dX11_many_409 (by decide) (fun c_409 => ?_) (fun c_409 => ?_)
        · have hF := hF.trans (if_pos c_409)
          have hO := hO.1 c_409
          refine lv_iload hx hb dX11_many_416 (lv_at hl 11 rfl) ?_
          exact k_m_many_b418 g C (m_many_b376 n) (o_m_many_b376 n) ih st x1 x2 x3 x6 x8 x9 x10 x11 x12 x13 x14 x15 x16 x17 ((x12 + ((4 : Int32) * x15)) &&& (67108860 : Int32)) x13 H locs ls hI (lv_sub hl [1, 2, 3, 4, 5, 6, 7, 8, 9, 10, 11, 12, 13, 14, 15, 0] rfl) hO X hF
        · have hF := hF.trans (if_neg c_409)
          have hO := hO.2 c_409
          refine lv_iconst (v := (0 : Int32)) hx hb dX11_many_412 (by decide) ?_
          refine lv_goto (tgt := 418) hx hb dX11_many_413 (by decide) ?_
          exact k_m_many_b418 g C (m_many_b376 n) (o_m_many_b376 n) ih st x1 x2 x3 x6 x8 x9 x10 x11 x12 x13 x14 x15 x16 x17 ((x12 + ((4 : Int32) * x15)) &&& (67108860 : Int32)) (0 : Int32) H locs ls hI (lv_sub hl [1, 2, 3, 4, 5, 6, 7, 8, 9, 10, 11, 12, 13, 14, 15, 0] rfl) hO X hF
      · have hF := hF.trans (if_pos c_389)
        have hO := hO.1 c_389
        refine lv_goto (tgt := 603) hx hb dX11_many_392 (by decide) ?_
        exact k_m_many_b603 g C (m_many_b376 n) (o_m_many_b376 n) ih st x1 x2 x3 x6 x8 x9 x10 x11 x12 x13 x14 x15 x16 x17 H locs ls hI (lv_sub hl [0, 1, 2, 3, 4, 5, 6, 7, 8, 9, 10, 11, 12, 13, 14] rfl) hO X hF
def m_many_b376t (st : CS) (x1 : Int32) (x2 : Int32) (x3 : Int32) (x6 : Int32) (x8 : Int32) (x9 : Int32) (x10 : Int32) (x11 : Int32) (x12 : Int32) (x13 : Int32) (x14 : Int32) (x15 : Int32) (x16 : Int32) (x17 : Int32) : CS × Int32 := (m_many_b376 (17) st x1 x2 x3 x6 x8 x9 x10 x11 x12 x13 x14 x15 x16 x17).getD (st, 0)
def o_m_many_b376t (st : CS) (x1 : Int32) (x2 : Int32) (x3 : Int32) (x6 : Int32) (x8 : Int32) (x9 : Int32) (x10 : Int32) (x11 : Int32) (x12 : Int32) (x13 : Int32) (x14 : Int32) (x15 : Int32) (x16 : Int32) (x17 : Int32) : Prop := o_m_many_b376 (17) st x1 x2 x3 x6 x8 x9 x10 x11 x12 x13 x14 x15 x16 x17 ∧ ∃ r, m_many_b376 (17) st x1 x2 x3 x6 x8 x9 x10 x11 x12 x13 x14 x15 x16 x17 = some r
set_option maxHeartbeats 4000000 in
set_option maxRecDepth 100000 in
theorem k_m_many_b376t {p : Program} {l : Launch} {e : Env} {s : State} {m : MethodId} {args : Array Value} {below : List Frame} {meth : Method} {c : Code} {A : Nat → Prop} (g : Gm) (C : cX p s m args meth c A cX11_many (some .int) 21 RX11 wq_X11_many (gD g) vwCl (mty g) (mz g)) (st : CS) (x1 : Int32) (x2 : Int32) (x3 : Int32) (x6 : Int32) (x8 : Int32) (x9 : Int32) (x10 : Int32) (x11 : Int32) (x12 : Int32) (x13 : Int32) (x14 : Int32) (x15 : Int32) (x16 : Int32) (x17 : Int32) (H : Heap) (locs : List Loc) (ls : Array Slot) (hI : cI (gD g) vwCl (mw g) A s st H locs) (hl : lv_has ls 21 [(0, .ref (gad g 0)), (1, .int x1), (2, .int x2), (3, .int x3), (6, .int x6), (8, .int x8), (9, .int x9), (10, .int x10), (11, .int x11), (12, .int x12), (13, .int x13), (14, .int x14), (15, .int x15), (16, .int x16), (17, .int x17)]) (hO : o_m_many_b376t st x1 x2 x3 x6 x8 x9 x10 x11 x12 x13 x14 x15 x16 x17) (X : CS × Int32) (hF : X = m_many_b376t st x1 x2 x3 x6 x8 x9 x10 x11 x12 x13 x14 x15 x16 x17) : W p l e rm_m_many s m args below meth c H locs 0 0 (MQ below (cQi (gD g) vwCl (mty g) (mw g) A X.1 X.2) args s 0 0 A) (F0 m 376 ls []) := by
  refine k_m_many_b376 g C (17) st x1 x2 x3 x6 x8 x9 x10 x11 x12 x13 x14 x15 x16 x17 H locs ls hI hl hO.1 X ?_
  rw [hF]
  exact some_getD hO.2
def m_many_b367 (st : CS) (x1 : Int32) (x2 : Int32) (x3 : Int32) (x6 : Int32) (x8 : Int32) (x9 : Int32) (x10 : Int32) (x11 : Int32) (x12 : Int32) (x13 : Int32) (x14 : Int32) : CS × Int32 := (m_many_b376t st x1 x2 x3 x6 x8 x9 x10 x11 x12 x13 x14 (0 : Int32) (0 : Int32) (0 : Int32))
def o_m_many_b367 (st : CS) (x1 : Int32) (x2 : Int32) (x3 : Int32) (x6 : Int32) (x8 : Int32) (x9 : Int32) (x10 : Int32) (x11 : Int32) (x12 : Int32) (x13 : Int32) (x14 : Int32) : Prop := (o_m_many_b376t st x1 x2 x3 x6 x8 x9 x10 x11 x12 x13 x14 (0 : Int32) (0 : Int32) (0 : Int32))
set_option maxHeartbeats 4000000 in
set_option maxRecDepth 100000 in
theorem k_m_many_b367 {p : Program} {l : Launch} {e : Env} {s : State} {m : MethodId} {args : Array Value} {below : List Frame} {meth : Method} {c : Code} {A : Nat → Prop} (g : Gm) (C : cX p s m args meth c A cX11_many (some .int) 21 RX11 wq_X11_many (gD g) vwCl (mty g) (mz g)) (st : CS) (x1 : Int32) (x2 : Int32) (x3 : Int32) (x6 : Int32) (x8 : Int32) (x9 : Int32) (x10 : Int32) (x11 : Int32) (x12 : Int32) (x13 : Int32) (x14 : Int32) (H : Heap) (locs : List Loc) (ls : Array Slot) (hI : cI (gD g) vwCl (mw g) A s st H locs) (hl : lv_has ls 21 [(0, .ref (gad g 0)), (1, .int x1), (2, .int x2), (3, .int x3), (6, .int x6), (8, .int x8), (9, .int x9), (10, .int x10), (11, .int x11), (12, .int x12), (13, .int x13), (14, .int x14)]) (hO : o_m_many_b367 st x1 x2 x3 x6 x8 x9 x10 x11 x12 x13 x14) (X : CS × Int32) (hF : X = m_many_b367 st x1 x2 x3 x6 x8 x9 x10 x11 x12 x13 x14) : W p l e rm_m_many s m args below meth c H locs 0 0 (MQ below (cQi (gD g) vwCl (mty g) (mw g) A X.1 X.2) args s 0 0 A) (F0 m 367 ls []) := by
  obtain ⟨hx, hb, hr, hml, hown, hts, hlocks, hK, hA, hZ, hzo⟩ := id C
  unfold m_many_b367 at hF
  unfold o_m_many_b367 at hO
  refine lv_iconst (v := (0 : Int32)) hx hb dX11_many_367 (by decide) ?_
  refine lv_istore (lv' := [(15, .int (0 : Int32)), (0, .ref (gad g 0)), (1, .int x1), (2, .int x2), (3, .int x3), (6, .int x6), (8, .int x8), (9, .int x9), (10, .int x10), (11, .int x11), (12, .int x12), (13, .int x13), (14, .int x14)]) hx hb dX11_many_368 hl (by decide) rfl (fun ls hl => ?_)
  refine lv_iconst (v := (0 : Int32)) hx hb dX11_many_370 (by decide) ?_
  refine lv_istore (lv' := [(16, .int (0 : Int32)), (15, .int (0 : Int32)), (0, .ref (gad g 0)), (1, .int x1), (2, .int x2), (3, .int x3), (6, .int x6), (8, .int x8), (9, .int x9), (10, .int x10), (11, .int x11), (12, .int x12), (13, .int x13), (14, .int x14)]) hx hb dX11_many_371 hl (by decide) rfl (fun ls hl => ?_)
  refine lv_iconst (v := (0 : Int32)) hx hb dX11_many_373 (by decide) ?_
  refine lv_istore (lv' := [(17, .int (0 : Int32)), (16, .int (0 : Int32)), (15, .int (0 : Int32)), (0, .ref (gad g 0)), (1, .int x1), (2, .int x2), (3, .int x3), (6, .int x6), (8, .int x8), (9, .int x9), (10, .int x10), (11, .int x11), (12, .int x12), (13, .int x13), (14, .int x14)]) hx hb dX11_many_374 hl (by decide) rfl (fun ls hl => ?_)
  exact k_m_many_b376t g C st x1 x2 x3 x6 x8 x9 x10 x11 x12 x13 x14 (0 : Int32) (0 : Int32) (0 : Int32) H locs ls hI (lv_sub hl [3, 4, 5, 6, 7, 8, 9, 10, 11, 12, 13, 14, 2, 1, 0] rfl) hO X hF
def m_many_b364 (st : CS) (x1 : Int32) (x2 : Int32) (x3 : Int32) (x6 : Int32) (x8 : Int32) (x9 : Int32) (x10 : Int32) (x11 : Int32) (x12 : Int32) (x13 : Int32) (x14 : Int32) (y2 : Int32) (y1 : Int32) (y0 : Int32) : CS × Int32 := (m_many_b367 (m_give st y2 y1 y0) x1 x2 x3 x6 x8 x9 x10 x11 x12 x13 x14)
def o_m_many_b364 (st : CS) (x1 : Int32) (x2 : Int32) (x3 : Int32) (x6 : Int32) (x8 : Int32) (x9 : Int32) (x10 : Int32) (x11 : Int32) (x12 : Int32) (x13 : Int32) (x14 : Int32) (y2 : Int32) (y1 : Int32) (y0 : Int32) : Prop := ((o_m_give st y2 y1 y0) ∧ (o_m_many_b367 (m_give st y2 y1 y0) x1 x2 x3 x6 x8 x9 x10 x11 x12 x13 x14))
set_option maxHeartbeats 4000000 in
set_option maxRecDepth 100000 in
theorem k_m_many_b364 {p : Program} {l : Launch} {e : Env} {s : State} {m : MethodId} {args : Array Value} {below : List Frame} {meth : Method} {c : Code} {A : Nat → Prop} (g : Gm) (C : cX p s m args meth c A cX11_many (some .int) 21 RX11 wq_X11_many (gD g) vwCl (mty g) (mz g)) (st : CS) (x1 : Int32) (x2 : Int32) (x3 : Int32) (x6 : Int32) (x8 : Int32) (x9 : Int32) (x10 : Int32) (x11 : Int32) (x12 : Int32) (x13 : Int32) (x14 : Int32) (y2 : Int32) (y1 : Int32) (y0 : Int32) (H : Heap) (locs : List Loc) (ls : Array Slot) (hI : cI (gD g) vwCl (mw g) A s st H locs) (hl : lv_has ls 21 [(0, .ref (gad g 0)), (1, .int x1), (2, .int x2), (3, .int x3), (6, .int x6), (8, .int x8), (9, .int x9), (10, .int x10), (11, .int x11), (12, .int x12), (13, .int x13), (14, .int x14)]) (hO : o_m_many_b364 st x1 x2 x3 x6 x8 x9 x10 x11 x12 x13 x14 y2 y1 y0) (X : CS × Int32) (hF : X = m_many_b364 st x1 x2 x3 x6 x8 x9 x10 x11 x12 x13 x14 y2 y1 y0) : W p l e rm_m_many s m args below meth c H locs 0 0 (MQ below (cQi (gD g) vwCl (mty g) (mw g) A X.1 X.2) args s 0 0 A) (F0 m 364 ls [.int y0, .int y1, .int y2, .ref (gad g 0)]) := by
  obtain ⟨hx, hb, hr, hml, hown, hts, hlocks, hK, hA, hZ, hzo⟩ := id C
  unfold m_many_b364 at hF
  unfold o_m_many_b364 at hO
  have hq_364_0 := hO.1
  have hO := hO.2
  refine cx_Vv (As := [.int y2, .int y1, .int y0]) (rest := []) C (c_m_give l g st y2 y1 y0 hq_364_0) (cwV 3 hts (gd_V _ mw777 mw778 mw779 mw3 mw780) rfl rfl rfl yd_yX11_give ⟨Nat.le_of_ble_eq_true rfl, Nat.le_of_ble_eq_true rfl⟩) (va_recv hK hI.1 (ci := 11) (q0 := 0) rfl rfl) hI rfl hl.1 rfl (Nat.le_of_ble_eq_true rfl) dX11_many_364 (fun H locs hI => ?_)
  exact k_m_many_b367 g C (m_give st y2 y1 y0) x1 x2 x3 x6 x8 x9 x10 x11 x12 x13 x14 H locs ls hI (lv_sub hl [0, 1, 2, 3, 4, 5, 6, 7, 8, 9, 10, 11] rfl) hO X hF
def m_many_b325 (st : CS) (x1 : Int32) (x2 : Int32) (x3 : Int32) (x5 : Int32) (x6 : Int32) (x7 : Int32) (x8 : Int32) (x9 : Int32) (x10 : Int32) (x11 : Int32) (x12 : Int32) (x13 : Int32) (y0 : Int32) : CS × Int32 := (if (x7 = 0) then (m_many_b367 st x1 x2 x3 x6 x8 x9 x10 x11 x12 x13 y0) else (if ((15 : Int32) ≤ x10) then (m_many_b367 st x1 x2 x3 x6 x8 x9 x10 x11 x12 x13 y0) else (if (x5 = 0) then (m_many_b364 st x1 x2 x3 x6 x8 x9 x10 x11 x12 x13 y0 x13 x10 (x11 - ((4 : Int32) * x2))) else (m_many_b364 st x1 x2 x3 x6 x8 x9 x10 x11 x12 x13 y0 x13 x10 (x11 + ((4 : Int32) * x2))))))
def o_m_many_b325 (st : CS) (x1 : Int32) (x2 : Int32) (x3 : Int32) (x5 : Int32) (x6 : Int32) (x7 : Int32) (x8 : Int32) (x9 : Int32) (x10 : Int32) (x11 : Int32) (x12 : Int32) (x13 : Int32) (y0 : Int32) : Prop := (((x7 = 0) → (o_m_many_b367 st x1 x2 x3 x6 x8 x9 x10 x11 x12 x13 y0)) ∧ (¬ (x7 = 0) → ((((15 : Int32) ≤ x10) → (o_m_many_b367 st x1 x2 x3 x6 x8 x9 x10 x11 x12 x13 y0)) ∧ (¬ ((15 : Int32) ≤ x10) → (((x5 = 0) → (o_m_many_b364 st x1 x2 x3 x6 x8 x9 x10 x11 x12 x13 y0 x13 x10 (x11 - ((4 : Int32) * x2)))) ∧ (¬ (x5 = 0) → (o_m_many_b364 st x1 x2 x3 x6 x8 x9 x10 x11 x12 x13 y0 x13 x10 (x11 + ((4 : Int32) * x2)))))))))
set_option maxHeartbeats 4000000 in
set_option maxRecDepth 100000 in
theorem k_m_many_b325 {p : Program} {l : Launch} {e : Env} {s : State} {m : MethodId} {args : Array Value} {below : List Frame} {meth : Method} {c : Code} {A : Nat → Prop} (g : Gm) (C : cX p s m args meth c A cX11_many (some .int) 21 RX11 wq_X11_many (gD g) vwCl (mty g) (mz g)) (st : CS) (x1 : Int32) (x2 : Int32) (x3 : Int32) (x5 : Int32) (x6 : Int32) (x7 : Int32) (x8 : Int32) (x9 : Int32) (x10 : Int32) (x11 : Int32) (x12 : Int32) (x13 : Int32) (y0 : Int32) (H : Heap) (locs : List Loc) (ls : Array Slot) (hI : cI (gD g) vwCl (mw g) A s st H locs) (hl : lv_has ls 21 [(0, .ref (gad g 0)), (1, .int x1), (2, .int x2), (3, .int x3), (5, .int x5), (6, .int x6), (7, .int x7), (8, .int x8), (9, .int x9), (10, .int x10), (11, .int x11), (12, .int x12), (13, .int x13)]) (hO : o_m_many_b325 st x1 x2 x3 x5 x6 x7 x8 x9 x10 x11 x12 x13 y0) (X : CS × Int32) (hF : X = m_many_b325 st x1 x2 x3 x5 x6 x7 x8 x9 x10 x11 x12 x13 y0) : W p l e rm_m_many s m args below meth c H locs 0 0 (MQ below (cQi (gD g) vwCl (mty g) (mw g) A X.1 X.2) args s 0 0 A) (F0 m 325 ls [.int y0]) := by
  obtain ⟨hx, hb, hr, hml, hown, hts, hlocks, hK, hA, hZ, hzo⟩ := id C
  unfold m_many_b325 at hF
  unfold o_m_many_b325 at hO
  refine lv_istore (lv' := [(14, .int y0), (0, .ref (gad g 0)), (1, .int x1), (2, .int x2), (3, .int x3), (5, .int x5), (6, .int x6), (7, .int x7), (8, .int x8), (9, .int x9), (10, .int x10), (11, .int x11), (12, .int x12), (13, .int x13)]) hx hb dX11_many_325 hl (by decide) rfl (fun ls hl => ?_)
  refine lv_iload hx hb dX11_many_327 (lv_at hl 7 rfl) ?_
  refine lv_if_eq (tgt := 367) hx hb dX11_many_329 (by decide) (fun c_329 => ?_) (fun c_329 => ?_)
  · have hF := hF.trans (if_pos c_329)
    have hO := hO.1 c_329
    exact k_m_many_b367 g C st x1 x2 x3 x6 x8 x9 x10 x11 x12 x13 y0 H locs ls hI (lv_sub hl [1, 2, 3, 4, 6, 8, 9, 10, 11, 12, 13, 0] rfl) hO X hF
  · have hF := hF.trans (if_neg c_329)
    have hO := hO.2 c_329
    refine lv_iload hx hb dX11_many_332 (lv_at hl 10 rfl) ?_
    refine lv_bipush (v := (15 : Int32)) hx hb dX11_many_334 (by decide) ?_
    refine lv_icmp_ge (tgt := 367) hx hb dX11_many_336 (by decide) (fun c_336 => ?_) (fun c_336 => ?_)
    · have hF := hF.trans (if_pos c_336)
      have hO := hO.1 c_336
      exact k_m_many_b367 g C st x1 x2 x3 x6 x8 x9 x10 x11 x12 x13 y0 H locs ls hI (lv_sub hl [1, 2, 3, 4, 6, 8, 9, 10, 11, 12, 13, 0] rfl) hO X hF
    · have hF := hF.trans (if_neg c_336)
      have hO := hO.2 c_336
      refine lv_aload_n hx hb dX11_many_339 rfl (lv_at hl 1 rfl) ?_
      refine lv_iload hx hb dX11_many_340 (lv_at hl 13 rfl) ?_
      refine lv_iload hx hb dX11_many_342 (lv_at hl 10 rfl) ?_
      refine lv_iload hx hb dX11_many_344 (lv_at hl 5 rfl) ?_
      refine lv_if_eq (tgt := 358) hx hb dX11_many_346 (by decide) (fun c_346 => ?_) (fun c_346 => ?_)
      · have hF := hF.trans (if_pos c_346)
        have hO := hO.1 c_346
        refine lv_iload hx hb dX11_many_358 (lv_at hl 11 rfl) ?_
        refine lv_iconst (v := (4 : Int32)) hx hb dX11_many_360 (by decide) ?_
        refine lv_iload_n hx hb dX11_many_361 rfl (lv_at hl 3 rfl) ?_
        refine lv_imul hx hb dX11_many_362 ?_
        refine lv_isub hx hb dX11_many_363 ?_
        exact k_m_many_b364 g C st x1 x2 x3 x6 x8 x9 x10 x11 x12 x13 y0 x13 x10 (x11 - ((4 : Int32) * x2)) H locs ls hI (lv_sub hl [1, 2, 3, 4, 6, 8, 9, 10, 11, 12, 13, 0] rfl) hO X hF
      · have hF := hF.trans (if_neg c_346)
        have hO := hO.2 c_346
        refine lv_iload hx hb dX11_many_349 (lv_at hl 11 rfl) ?_
        refine lv_iconst (v := (4 : Int32)) hx hb dX11_many_351 (by decide) ?_
        refine lv_iload_n hx hb dX11_many_352 rfl (lv_at hl 3 rfl) ?_
        refine lv_imul hx hb dX11_many_353 ?_
        refine lv_iadd hx hb dX11_many_354 ?_
        refine lv_goto (tgt := 364) hx hb dX11_many_355 (by decide) ?_
        exact k_m_many_b364 g C st x1 x2 x3 x6 x8 x9 x10 x11 x12 x13 y0 x13 x10 (x11 + ((4 : Int32) * x2)) H locs ls hI (lv_sub hl [1, 2, 3, 4, 6, 8, 9, 10, 11, 12, 13, 0] rfl) hO X hF
def m_many_b324 (st : CS) (x1 : Int32) (x2 : Int32) (x3 : Int32) (x5 : Int32) (x6 : Int32) (x7 : Int32) (x8 : Int32) (x9 : Int32) (x10 : Int32) (x11 : Int32) (x12 : Int32) (x13 : Int32) : CS × Int32 := (m_many_b325 st x1 x2 x3 x5 x6 x7 x8 x9 x10 x11 x12 x13 (0 : Int32))
def o_m_many_b324 (st : CS) (x1 : Int32) (x2 : Int32) (x3 : Int32) (x5 : Int32) (x6 : Int32) (x7 : Int32) (x8 : Int32) (x9 : Int32) (x10 : Int32) (x11 : Int32) (x12 : Int32) (x13 : Int32) : Prop := (o_m_many_b325 st x1 x2 x3 x5 x6 x7 x8 x9 x10 x11 x12 x13 (0 : Int32))
set_option maxHeartbeats 4000000 in
set_option maxRecDepth 100000 in
theorem k_m_many_b324 {p : Program} {l : Launch} {e : Env} {s : State} {m : MethodId} {args : Array Value} {below : List Frame} {meth : Method} {c : Code} {A : Nat → Prop} (g : Gm) (C : cX p s m args meth c A cX11_many (some .int) 21 RX11 wq_X11_many (gD g) vwCl (mty g) (mz g)) (st : CS) (x1 : Int32) (x2 : Int32) (x3 : Int32) (x5 : Int32) (x6 : Int32) (x7 : Int32) (x8 : Int32) (x9 : Int32) (x10 : Int32) (x11 : Int32) (x12 : Int32) (x13 : Int32) (H : Heap) (locs : List Loc) (ls : Array Slot) (hI : cI (gD g) vwCl (mw g) A s st H locs) (hl : lv_has ls 21 [(0, .ref (gad g 0)), (1, .int x1), (2, .int x2), (3, .int x3), (5, .int x5), (6, .int x6), (7, .int x7), (8, .int x8), (9, .int x9), (10, .int x10), (11, .int x11), (12, .int x12), (13, .int x13)]) (hO : o_m_many_b324 st x1 x2 x3 x5 x6 x7 x8 x9 x10 x11 x12 x13) (X : CS × Int32) (hF : X = m_many_b324 st x1 x2 x3 x5 x6 x7 x8 x9 x10 x11 x12 x13) : W p l e rm_m_many s m args below meth c H locs 0 0 (MQ below (cQi (gD g) vwCl (mty g) (mw g) A X.1 X.2) args s 0 0 A) (F0 m 324 ls []) := by
  obtain ⟨hx, hb, hr, hml, hown, hts, hlocks, hK, hA, hZ, hzo⟩ := id C
  unfold m_many_b324 at hF
  unfold o_m_many_b324 at hO
  refine lv_iconst (v := (0 : Int32)) hx hb dX11_many_324 (by decide) ?_
  exact k_m_many_b325 g C st x1 x2 x3 x5 x6 x7 x8 x9 x10 x11 x12 x13 (0 : Int32) H locs ls hI (lv_sub hl [0, 1, 2, 3, 4, 5, 6, 7, 8, 9, 10, 11, 12] rfl) hO X hF
def m_many_b320 (st : CS) (x1 : Int32) (x2 : Int32) (x3 : Int32) (x5 : Int32) (x6 : Int32) (x7 : Int32) (x8 : Int32) (x9 : Int32) (x10 : Int32) (x11 : Int32) (x12 : Int32) (x13 : Int32) : CS × Int32 := (m_many_b325 st x1 x2 x3 x5 x6 x7 x8 x9 x10 x11 x12 x13 (1 : Int32))
def o_m_many_b320 (st : CS) (x1 : Int32) (x2 : Int32) (x3 : Int32) (x5 : Int32) (x6 : Int32) (x7 : Int32) (x8 : Int32) (x9 : Int32) (x10 : Int32) (x11 : Int32) (x12 : Int32) (x13 : Int32) : Prop := (o_m_many_b325 st x1 x2 x3 x5 x6 x7 x8 x9 x10 x11 x12 x13 (1 : Int32))
set_option maxHeartbeats 4000000 in
set_option maxRecDepth 100000 in
theorem k_m_many_b320 {p : Program} {l : Launch} {e : Env} {s : State} {m : MethodId} {args : Array Value} {below : List Frame} {meth : Method} {c : Code} {A : Nat → Prop} (g : Gm) (C : cX p s m args meth c A cX11_many (some .int) 21 RX11 wq_X11_many (gD g) vwCl (mty g) (mz g)) (st : CS) (x1 : Int32) (x2 : Int32) (x3 : Int32) (x5 : Int32) (x6 : Int32) (x7 : Int32) (x8 : Int32) (x9 : Int32) (x10 : Int32) (x11 : Int32) (x12 : Int32) (x13 : Int32) (H : Heap) (locs : List Loc) (ls : Array Slot) (hI : cI (gD g) vwCl (mw g) A s st H locs) (hl : lv_has ls 21 [(0, .ref (gad g 0)), (1, .int x1), (2, .int x2), (3, .int x3), (5, .int x5), (6, .int x6), (7, .int x7), (8, .int x8), (9, .int x9), (10, .int x10), (11, .int x11), (12, .int x12), (13, .int x13)]) (hO : o_m_many_b320 st x1 x2 x3 x5 x6 x7 x8 x9 x10 x11 x12 x13) (X : CS × Int32) (hF : X = m_many_b320 st x1 x2 x3 x5 x6 x7 x8 x9 x10 x11 x12 x13) : W p l e rm_m_many s m args below meth c H locs 0 0 (MQ below (cQi (gD g) vwCl (mty g) (mw g) A X.1 X.2) args s 0 0 A) (F0 m 320 ls []) := by
  obtain ⟨hx, hb, hr, hml, hown, hts, hlocks, hK, hA, hZ, hzo⟩ := id C
  unfold m_many_b320 at hF
  unfold o_m_many_b320 at hO
  refine lv_iconst (v := (1 : Int32)) hx hb dX11_many_320 (by decide) ?_
  refine lv_goto (tgt := 325) hx hb dX11_many_321 (by decide) ?_
  exact k_m_many_b325 g C st x1 x2 x3 x5 x6 x7 x8 x9 x10 x11 x12 x13 (1 : Int32) H locs ls hI (lv_sub hl [0, 1, 2, 3, 4, 5, 6, 7, 8, 9, 10, 11, 12] rfl) hO X hF
def m_many_b299 (rec : CS → Int32 → Int32 → Int32 → Int32 → Int32 → Int32 → Int32 → Int32 → Int32 → Int32 → Int32 → Int32 → Int32 → Option (CS × Int32)) (st : CS) (x1 : Int32) (x2 : Int32) (x3 : Int32) (x5 : Int32) (x6 : Int32) (x7 : Int32) (x8 : Int32) (x9 : Int32) (x10 : Int32) (x11 : Int32) (x12 : Int32) (x13 : Int32) (x14 : Int32) : Option (CS × Int32) := (rec st x1 x2 x3 x5 x6 x7 x8 x9 x10 x11 x12 x13 (x14 + (1 : Int32)))
def o_m_many_b299 (orec : CS → Int32 → Int32 → Int32 → Int32 → Int32 → Int32 → Int32 → Int32 → Int32 → Int32 → Int32 → Int32 → Int32 → Prop) (st : CS) (x1 : Int32) (x2 : Int32) (x3 : Int32) (x5 : Int32) (x6 : Int32) (x7 : Int32) (x8 : Int32) (x9 : Int32) (x10 : Int32) (x11 : Int32) (x12 : Int32) (x13 : Int32) (x14 : Int32) : Prop := (orec st x1 x2 x3 x5 x6 x7 x8 x9 x10 x11 x12 x13 (x14 + (1 : Int32)))
set_option maxHeartbeats 4000000 in
set_option maxRecDepth 100000 in
theorem k_m_many_b299 {p : Program} {l : Launch} {e : Env} {s : State} {m : MethodId} {args : Array Value} {below : List Frame} {meth : Method} {c : Code} {A : Nat → Prop} (g : Gm) (C : cX p s m args meth c A cX11_many (some .int) 21 RX11 wq_X11_many (gD g) vwCl (mty g) (mz g)) (rec : CS → Int32 → Int32 → Int32 → Int32 → Int32 → Int32 → Int32 → Int32 → Int32 → Int32 → Int32 → Int32 → Int32 → Option (CS × Int32)) (orec : CS → Int32 → Int32 → Int32 → Int32 → Int32 → Int32 → Int32 → Int32 → Int32 → Int32 → Int32 → Int32 → Int32 → Prop) (hrec : ∀ (st : CS) (x1 : Int32) (x2 : Int32) (x3 : Int32) (x5 : Int32) (x6 : Int32) (x7 : Int32) (x8 : Int32) (x9 : Int32) (x10 : Int32) (x11 : Int32) (x12 : Int32) (x13 : Int32) (x14 : Int32) (H : Heap) (locs : List Loc) (ls : Array Slot), cI (gD g) vwCl (mw g) A s st H locs → lv_has ls 21 [(0, .ref (gad g 0)), (1, .int x1), (2, .int x2), (3, .int x3), (5, .int x5), (6, .int x6), (7, .int x7), (8, .int x8), (9, .int x9), (10, .int x10), (11, .int x11), (12, .int x12), (13, .int x13), (14, .int x14)] → orec st x1 x2 x3 x5 x6 x7 x8 x9 x10 x11 x12 x13 x14 → ∀ (X : CS × Int32), some X = rec st x1 x2 x3 x5 x6 x7 x8 x9 x10 x11 x12 x13 x14 → W p l e rm_m_many s m args below meth c H locs 0 0 (MQ below (cQi (gD g) vwCl (mty g) (mw g) A X.1 X.2) args s 0 0 A) (F0 m 236 ls [])) (st : CS) (x1 : Int32) (x2 : Int32) (x3 : Int32) (x5 : Int32) (x6 : Int32) (x7 : Int32) (x8 : Int32) (x9 : Int32) (x10 : Int32) (x11 : Int32) (x12 : Int32) (x13 : Int32) (x14 : Int32) (H : Heap) (locs : List Loc) (ls : Array Slot) (hI : cI (gD g) vwCl (mw g) A s st H locs) (hl : lv_has ls 21 [(0, .ref (gad g 0)), (1, .int x1), (2, .int x2), (3, .int x3), (5, .int x5), (6, .int x6), (7, .int x7), (8, .int x8), (9, .int x9), (10, .int x10), (11, .int x11), (12, .int x12), (13, .int x13), (14, .int x14)]) (hO : o_m_many_b299 orec st x1 x2 x3 x5 x6 x7 x8 x9 x10 x11 x12 x13 x14) (X : CS × Int32) (hF : some X = m_many_b299 rec st x1 x2 x3 x5 x6 x7 x8 x9 x10 x11 x12 x13 x14) : W p l e rm_m_many s m args below meth c H locs 0 0 (MQ below (cQi (gD g) vwCl (mty g) (mw g) A X.1 X.2) args s 0 0 A) (F0 m 299 ls []) := by
  obtain ⟨hx, hb, hr, hml, hown, hts, hlocks, hK, hA, hZ, hzo⟩ := id C
  unfold m_many_b299 at hF
  unfold o_m_many_b299 at hO
  refine lv_iinc (v := (x14 + (1 : Int32))) (lv' := [(14, .int (x14 + (1 : Int32))), (0, .ref (gad g 0)), (1, .int x1), (2, .int x2), (3, .int x3), (5, .int x5), (6, .int x6), (7, .int x7), (8, .int x8), (9, .int x9), (10, .int x10), (11, .int x11), (12, .int x12), (13, .int x13)]) hx hb dX11_many_299 hl (k := 13) rfl rfl (by decide) rfl (fun ls hl => ?_)
  refine lv_goto (tgt := 236) hx hb dX11_many_302 (by decide) ?_
  exact hrec st x1 x2 x3 x5 x6 x7 x8 x9 x10 x11 x12 x13 (x14 + (1 : Int32)) H locs ls hI (lv_sub hl [1, 2, 3, 4, 5, 6, 7, 8, 9, 10, 11, 12, 13, 0] rfl) hO X hF
def m_many_b269 (rec : CS → Int32 → Int32 → Int32 → Int32 → Int32 → Int32 → Int32 → Int32 → Int32 → Int32 → Int32 → Int32 → Int32 → Option (CS × Int32)) (st : CS) (x1 : Int32) (x2 : Int32) (x3 : Int32) (x5 : Int32) (x6 : Int32) (x7 : Int32) (x8 : Int32) (x9 : Int32) (x10 : Int32) (x11 : Int32) (x12 : Int32) (x13 : Int32) (x14 : Int32) (x15 : Int32) (y2 : Int32) (y1 : Int32) (y0 : Int32) : Option (CS × Int32) := (if ((m_may st y2 y1 y0) = 0) then (some ((m_trap st (3 : Int32) (3 : Int32) (16 : Int32) (8 : Int32)).1, (m_trap st (3 : Int32) (3 : Int32) (16 : Int32) (8 : Int32)).2)) else (m_many_b299 rec (sA st 4 (upd (gA st 4) x14.toNatClampNeg (m_wordAt st x15))) x1 x2 x3 x5 x6 x7 x8 x9 x10 x11 x12 x13 x14))
def o_m_many_b269 (orec : CS → Int32 → Int32 → Int32 → Int32 → Int32 → Int32 → Int32 → Int32 → Int32 → Int32 → Int32 → Int32 → Int32 → Prop) (st : CS) (x1 : Int32) (x2 : Int32) (x3 : Int32) (x5 : Int32) (x6 : Int32) (x7 : Int32) (x8 : Int32) (x9 : Int32) (x10 : Int32) (x11 : Int32) (x12 : Int32) (x13 : Int32) (x14 : Int32) (x15 : Int32) (y2 : Int32) (y1 : Int32) (y0 : Int32) : Prop := ((o_m_may st y2 y1 y0) ∧ ((((m_may st y2 y1 y0) = 0) → ((o_m_trap st (3 : Int32) (3 : Int32) (16 : Int32) (8 : Int32)) ∧ True)) ∧ (¬ ((m_may st y2 y1 y0) = 0) → ((o_m_wordAt st x15) ∧ (vp_in x14 16 ∧ (o_m_many_b299 orec (sA st 4 (upd (gA st 4) x14.toNatClampNeg (m_wordAt st x15))) x1 x2 x3 x5 x6 x7 x8 x9 x10 x11 x12 x13 x14))))))
set_option maxHeartbeats 4000000 in
set_option maxRecDepth 100000 in
theorem k_m_many_b269 {p : Program} {l : Launch} {e : Env} {s : State} {m : MethodId} {args : Array Value} {below : List Frame} {meth : Method} {c : Code} {A : Nat → Prop} (g : Gm) (C : cX p s m args meth c A cX11_many (some .int) 21 RX11 wq_X11_many (gD g) vwCl (mty g) (mz g)) (rec : CS → Int32 → Int32 → Int32 → Int32 → Int32 → Int32 → Int32 → Int32 → Int32 → Int32 → Int32 → Int32 → Int32 → Option (CS × Int32)) (orec : CS → Int32 → Int32 → Int32 → Int32 → Int32 → Int32 → Int32 → Int32 → Int32 → Int32 → Int32 → Int32 → Int32 → Prop) (hrec : ∀ (st : CS) (x1 : Int32) (x2 : Int32) (x3 : Int32) (x5 : Int32) (x6 : Int32) (x7 : Int32) (x8 : Int32) (x9 : Int32) (x10 : Int32) (x11 : Int32) (x12 : Int32) (x13 : Int32) (x14 : Int32) (H : Heap) (locs : List Loc) (ls : Array Slot), cI (gD g) vwCl (mw g) A s st H locs → lv_has ls 21 [(0, .ref (gad g 0)), (1, .int x1), (2, .int x2), (3, .int x3), (5, .int x5), (6, .int x6), (7, .int x7), (8, .int x8), (9, .int x9), (10, .int x10), (11, .int x11), (12, .int x12), (13, .int x13), (14, .int x14)] → orec st x1 x2 x3 x5 x6 x7 x8 x9 x10 x11 x12 x13 x14 → ∀ (X : CS × Int32), some X = rec st x1 x2 x3 x5 x6 x7 x8 x9 x10 x11 x12 x13 x14 → W p l e rm_m_many s m args below meth c H locs 0 0 (MQ below (cQi (gD g) vwCl (mty g) (mw g) A X.1 X.2) args s 0 0 A) (F0 m 236 ls [])) (st : CS) (x1 : Int32) (x2 : Int32) (x3 : Int32) (x5 : Int32) (x6 : Int32) (x7 : Int32) (x8 : Int32) (x9 : Int32) (x10 : Int32) (x11 : Int32) (x12 : Int32) (x13 : Int32) (x14 : Int32) (x15 : Int32) (y2 : Int32) (y1 : Int32) (y0 : Int32) (H : Heap) (locs : List Loc) (ls : Array Slot) (hI : cI (gD g) vwCl (mw g) A s st H locs) (hl : lv_has ls 21 [(0, .ref (gad g 0)), (1, .int x1), (2, .int x2), (3, .int x3), (5, .int x5), (6, .int x6), (7, .int x7), (8, .int x8), (9, .int x9), (10, .int x10), (11, .int x11), (12, .int x12), (13, .int x13), (14, .int x14), (15, .int x15)]) (hO : o_m_many_b269 orec st x1 x2 x3 x5 x6 x7 x8 x9 x10 x11 x12 x13 x14 x15 y2 y1 y0) (X : CS × Int32) (hF : some X = m_many_b269 rec st x1 x2 x3 x5 x6 x7 x8 x9 x10 x11 x12 x13 x14 x15 y2 y1 y0) : W p l e rm_m_many s m args below meth c H locs 0 0 (MQ below (cQi (gD g) vwCl (mty g) (mw g) A X.1 X.2) args s 0 0 A) (F0 m 269 ls [.int y0, .int y1, .int y2, .ref (gad g 0)]) := by
  obtain ⟨hx, hb, hr, hml, hown, hts, hlocks, hK, hA, hZ, hzo⟩ := id C
  unfold m_many_b269 at hF
  unfold o_m_many_b269 at hO
  have hq_269_0 := hO.1
  have hO := hO.2
  refine cx_Vi (As := [.int y2, .int y1, .int y0]) (rest := []) C (c_m_may l g st y2 y1 y0 hq_269_0) (cwV 3 hts (gd_V _ mw800 mw801 mw802 mw3 mw803) rfl rfl rfl yd_yX11_may ⟨Nat.le_of_ble_eq_true rfl, Nat.le_of_ble_eq_true rfl⟩) (va_recv hK hI.1 (ci := 11) (q0 := 0) rfl rfl) hI rfl hl.1 rfl (Nat.le_of_ble_eq_true rfl) dX11_many_269 (fun H locs hI => ?_)
  refine lv_if_ne (tgt := 286) hx hb dX11_many_272 (by decide) (fun c_272 => ?_) (fun c_272 => ?_)
  · have hF := hF.trans (if_neg c_272)
    have hO := hO.2 c_272
    refine lv_aload_n hx hb dX11_many_286 rfl (lv_at hl 0 rfl) ?_
    refine va_get (D := gD g) (ci := 11) (C := RX11) (T := TX11) (N := 50) (v := .ref (gad g 5)) hx hb hts (fun w h => List.mem_cons_of_mem _ (isX110 w h)) hown hK hI.1 0 rfl rfl 9 (by decide) (hts _ (List.mem_cons_of_mem _ mw189)) (fun _ h9 => h9) rfl dX11_many_287 ?_
    refine lv_iload hx hb dX11_many_290 (lv_at hl 13 rfl) ?_
    refine lv_aload_n hx hb dX11_many_292 rfl (lv_at hl 0 rfl) ?_
    refine lv_iload hx hb dX11_many_293 (lv_at hl 14 rfl) ?_
    have hq_295_0 := hO.1
    have hO := hO.2
    refine cx_Vi (As := [.int x15]) (rest := [.int x14, .ref (gad g 5)]) C (c_m_wordAt l g st x15 hq_295_0) (cwV 1 hts (gd_V _ mw809 mw810 mw811 mw3 mw812) rfl rfl rfl yd_yX11_wordAt ⟨Nat.le_of_ble_eq_true rfl, Nat.le_of_ble_eq_true rfl⟩) (va_recv hK hI.1 (ci := 11) (q0 := 0) rfl rfl) hI rfl hl.1 rfl (Nat.le_of_ble_eq_true rfl) dX11_many_295 (fun H locs hI => ?_)
    have hq_298_1 := hO.1
    have hO := hO.2
    refine va_iast (f := (gA st 4)) hx hb hK hI.1 hI.2.1 hI.2.2 5 4 rfl rfl hq_298_1 dX11_many_298 (fun H locs hP hD hS => ?_)
    have hI : cI (gD g) vwCl (mw g) A s (sA st 4 (upd (gA st 4) x14.toNatClampNeg (m_wordAt st x15))) H locs := ⟨hP, hD, hS⟩
    exact k_m_many_b299 g C rec orec hrec (sA st 4 (upd (gA st 4) x14.toNatClampNeg (m_wordAt st x15))) x1 x2 x3 x5 x6 x7 x8 x9 x10 x11 x12 x13 x14 H locs ls hI (lv_sub hl [0, 1, 2, 3, 4, 5, 6, 7, 8, 9, 10, 11, 12, 13] rfl) hO X hF
  · have hF := hF.trans (if_pos c_272)
    have hO := hO.1 c_272
    refine lv_aload_n hx hb dX11_many_275 rfl (lv_at hl 0 rfl) ?_
    refine lv_iconst (v := (3 : Int32)) hx hb dX11_many_276 (by decide) ?_
    refine lv_iconst (v := (3 : Int32)) hx hb dX11_many_277 (by decide) ?_
    refine lv_bipush (v := (16 : Int32)) hx hb dX11_many_278 (by decide) ?_
    refine lv_bipush (v := (8 : Int32)) hx hb dX11_many_280 (by decide) ?_
    have hq_282_0 := hO.1
    have hO := hO.2
    refine cx_Vi (As := [.int (3 : Int32), .int (3 : Int32), .int (16 : Int32), .int (8 : Int32)]) (rest := []) C (c_m_trap l g st (3 : Int32) (3 : Int32) (16 : Int32) (8 : Int32) hq_282_0) (cwV 4 hts (gd_V _ mw765 mw766 mw767 mw3 mw768) rfl rfl rfl yd_yX11_trap ⟨Nat.le_of_ble_eq_true rfl, Nat.le_of_ble_eq_true rfl⟩) (va_recv hK hI.1 (ci := 11) (q0 := 0) rfl rfl) hI rfl hl.1 rfl (Nat.le_of_ble_eq_true rfl) dX11_many_282 (fun H locs hI => ?_)
    have hF := Option.some.inj hF
    exact cx_iret C hI (congrArg Prod.fst hF) (congrArg Prod.snd hF) dX11_many_285
def m_many_b236 : Nat → CS → Int32 → Int32 → Int32 → Int32 → Int32 → Int32 → Int32 → Int32 → Int32 → Int32 → Int32 → Int32 → Int32 → Option (CS × Int32)
  | 0, _, _, _, _, _, _, _, _, _, _, _, _, _, _ => none
  | n + 1, st, x1, x2, x3, x5, x6, x7, x8, x9, x10, x11, x12, x13, x14 => (if (x2 ≤ x14) then (if (x6 = 0) then (some (m_many_b324 st x1 x2 x3 x5 x6 x7 x8 x9 x10 x11 x12 x13)) else (if (x8 = 0) then (some (m_many_b320 st x1 x2 x3 x5 x6 x7 x8 x9 x10 x11 x12 x13)) else (if (x9 = 0) then (some (m_many_b320 st x1 x2 x3 x5 x6 x7 x8 x9 x10 x11 x12 x13)) else (some (m_many_b324 st x1 x2 x3 x5 x6 x7 x8 x9 x10 x11 x12 x13))))) else (if (x8 = 0) then (m_many_b269 (m_many_b236 n) st x1 x2 x3 x5 x6 x7 x8 x9 x10 x11 x12 x13 x14 ((x12 + ((4 : Int32) * x14)) &&& (67108860 : Int32)) x13 ((x12 + ((4 : Int32) * x14)) &&& (67108860 : Int32)) (1 : Int32)) else (m_many_b269 (m_many_b236 n) st x1 x2 x3 x5 x6 x7 x8 x9 x10 x11 x12 x13 x14 ((x12 + ((4 : Int32) * x14)) &&& (67108860 : Int32)) x13 ((x12 + ((4 : Int32) * x14)) &&& (67108860 : Int32)) (0 : Int32))))
def o_m_many_b236 : Nat → CS → Int32 → Int32 → Int32 → Int32 → Int32 → Int32 → Int32 → Int32 → Int32 → Int32 → Int32 → Int32 → Int32 → Prop
  | 0, _, _, _, _, _, _, _, _, _, _, _, _, _, _ => True
  | n + 1, st, x1, x2, x3, x5, x6, x7, x8, x9, x10, x11, x12, x13, x14 => (((x2 ≤ x14) → (((x6 = 0) → (o_m_many_b324 st x1 x2 x3 x5 x6 x7 x8 x9 x10 x11 x12 x13)) ∧ (¬ (x6 = 0) → (((x8 = 0) → (o_m_many_b320 st x1 x2 x3 x5 x6 x7 x8 x9 x10 x11 x12 x13)) ∧ (¬ (x8 = 0) → (((x9 = 0) → (o_m_many_b320 st x1 x2 x3 x5 x6 x7 x8 x9 x10 x11 x12 x13)) ∧ (¬ (x9 = 0) → (o_m_many_b324 st x1 x2 x3 x5 x6 x7 x8 x9 x10 x11 x12 x13)))))))) ∧ (¬ (x2 ≤ x14) → (((x8 = 0) → (o_m_many_b269 (o_m_many_b236 n) st x1 x2 x3 x5 x6 x7 x8 x9 x10 x11 x12 x13 x14 ((x12 + ((4 : Int32) * x14)) &&& (67108860 : Int32)) x13 ((x12 + ((4 : Int32) * x14)) &&& (67108860 : Int32)) (1 : Int32))) ∧ (¬ (x8 = 0) → (o_m_many_b269 (o_m_many_b236 n) st x1 x2 x3 x5 x6 x7 x8 x9 x10 x11 x12 x13 x14 ((x12 + ((4 : Int32) * x14)) &&& (67108860 : Int32)) x13 ((x12 + ((4 : Int32) * x14)) &&& (67108860 : Int32)) (0 : Int32))))))
set_option maxHeartbeats 4000000 in
set_option maxRecDepth 100000 in
theorem k_m_many_b236 {p : Program} {l : Launch} {e : Env} {s : State} {m : MethodId} {args : Array Value} {below : List Frame} {meth : Method} {c : Code} {A : Nat → Prop} (g : Gm) (C : cX p s m args meth c A cX11_many (some .int) 21 RX11 wq_X11_many (gD g) vwCl (mty g) (mz g)) : ∀ (n : Nat) (st : CS) (x1 : Int32) (x2 : Int32) (x3 : Int32) (x5 : Int32) (x6 : Int32) (x7 : Int32) (x8 : Int32) (x9 : Int32) (x10 : Int32) (x11 : Int32) (x12 : Int32) (x13 : Int32) (x14 : Int32) (H : Heap) (locs : List Loc) (ls : Array Slot), cI (gD g) vwCl (mw g) A s st H locs → lv_has ls 21 [(0, .ref (gad g 0)), (1, .int x1), (2, .int x2), (3, .int x3), (5, .int x5), (6, .int x6), (7, .int x7), (8, .int x8), (9, .int x9), (10, .int x10), (11, .int x11), (12, .int x12), (13, .int x13), (14, .int x14)] → o_m_many_b236 n st x1 x2 x3 x5 x6 x7 x8 x9 x10 x11 x12 x13 x14 → ∀ (X : CS × Int32), some X = m_many_b236 n st x1 x2 x3 x5 x6 x7 x8 x9 x10 x11 x12 x13 x14 → W p l e rm_m_many s m args below meth c H locs 0 0 (MQ below (cQi (gD g) vwCl (mty g) (mw g) A X.1 X.2) args s 0 0 A) (F0 m 236 ls []) := by
  obtain ⟨hx, hb, hr, hml, hown, hts, hlocks, hK, hA, hZ, hzo⟩ := id C
  intro n
  induction n with
  | zero => intro st x1 x2 x3 x5 x6 x7 x8 x9 x10 x11 x12 x13 x14 H locs ls hI hl hO X hF; exact absurd hF (by simp [m_many_b236])
  | succ n ih =>
    intro st x1 x2 x3 x5 x6 x7 x8 x9 x10 x11 x12 x13 x14 H locs ls hI hl hO X hF
    rw [m_many_b236] at hF
    rw [o_m_many_b236] at hO
    refine lv_iload hx hb dX11_many_236 (lv_at hl 13 rfl) ?_
    refine lv_iload_n hx hb dX11_many_238 rfl (lv_at hl 2 rfl) ?_
    refine lv_icmp_ge (tgt := 305) hx hb dX11_many_239 (by decide) (fun c_239 => ?_) (fun c_239 => ?_)
    · have hF := hF.trans (if_pos c_239)
      have hO := hO.1 c_239
      refine lv_iload hx hb dX11_many_305 (lv_at hl 5 rfl) ?_
      refine lv_if_eq (tgt := 324) hx hb dX11_many_307 (by decide) (fun c_307 => ?_) (fun c_307 => ?_)
      · have hF := hF.trans (if_pos c_307)
        have hO := hO.1 c_307
        have hF := Option.some.inj hF
        exact k_m_many_b324 g C st x1 x2 x3 x5 x6 x7 x8 x9 x10 x11 x12 x13 H locs ls hI (lv_sub hl [0, 1, 2, 3, 4, 5, 6, 7, 8, 9, 10, 11, 12] rfl) hO X hF
      · have hF := hF.trans (if_neg c_307)
        have hO := hO.2 c_307
        refine lv_iload hx hb dX11_many_310 (lv_at hl 7 rfl) ?_
        refine lv_if_eq (tgt := 320) hx hb dX11_many_312 (by decide) (fun c_312 => ?_) (fun c_312 => ?_)
        · have hF := hF.trans (if_pos c_312)
          have hO := hO.1 c_312
          have hF := Option.some.inj hF
          exact k_m_many_b320 g C st x1 x2 x3 x5 x6 x7 x8 x9 x10 x11 x12 x13 H locs ls hI (lv_sub hl [0, 1, 2, 3, 4, 5, 6, 7, 8, 9, 10, 11, 12] rfl) hO X hF
        · have hF := hF.trans (if_neg c_312)
          have hO := hO.2 c_312
          refine lv_iload hx hb dX11_many_315 (lv_at hl 8 rfl) ?_
          refine lv_if_ne (tgt := 324) hx hb dX11_many_317 (by decide) (fun c_317 => ?_) (fun c_317 => ?_)
          · have hF := hF.trans (if_neg c_317)
            have hO := hO.2 c_317
            have hF := Option.some.inj hF
            exact k_m_many_b324 g C st x1 x2 x3 x5 x6 x7 x8 x9 x10 x11 x12 x13 H locs ls hI (lv_sub hl [0, 1, 2, 3, 4, 5, 6, 7, 8, 9, 10, 11, 12] rfl) hO X hF
          · have hF := hF.trans (if_pos c_317)
            have hO := hO.1 c_317
            have hF := Option.some.inj hF
            exact k_m_many_b320 g C st x1 x2 x3 x5 x6 x7 x8 x9 x10 x11 x12 x13 H locs ls hI (lv_sub hl [0, 1, 2, 3, 4, 5, 6, 7, 8, 9, 10, 11, 12] rfl) hO X hF
    · have hF := hF.trans (if_neg c_239)
      have hO := hO.2 c_239
      refine lv_iload hx hb dX11_many_242 (lv_at hl 11 rfl) ?_
      refine lv_iconst (v := (4 : Int32)) hx hb dX11_many_244 (by decide) ?_
      refine lv_iload hx hb dX11_many_245 (lv_at hl 13 rfl) ?_
      refine lv_imul hx hb dX11_many_247 ?_
      refine lv_iadd hx hb dX11_many_248 ?_
      refine lv_ldc (v := (67108860 : Int32)) hx hb hown (hts _ (List.mem_cons_of_mem _ mw748)) dX11_many_249 ?_
      refine lv_iand hx hb dX11_many_251 ?_
      refine lv_istore (lv' := [(15, .int ((x12 + ((4 : Int32) * x14)) &&& (67108860 : Int32))), (0, .ref (gad g 0)), (1, .int x1), (2, .int x2), (3, .int x3), (5, .int x5), (6, .int x6), (7, .int x7), (8, .int x8), (9, .int x9), (10, .int x10), (11, .int x11), (12, .int x12), (13, .int x13), (14, .int x14)]) hx hb dX11_many_252 hl (by decide) rfl (fun ls hl => ?_)
      refine lv_aload_n hx hb dX11_many_254 rfl (lv_at hl 1 rfl) ?_
      refine lv_iload hx hb dX11_many_255 (lv_at hl 13 rfl) ?_
      refine lv_iload hx hb dX11_many_257 (lv_at hl 0 rfl) ?_
      refine lv_iload hx hb dX11_many_259 (lv_at hl 8 rfl) ?_
      refine lv_if_ne (tgt := 268) hx hb dX11_many_261 (by decide) (fun c_261 => ?_) (fun c_261 => ?_)
      · have hF := hF.trans (if_neg c_261)
        have hO := hO.2 c_261
        refine lv_iconst (v := (0 : Int32)) hx hb dX11_many_268 (by decide) ?_
        exact k_m_many_b269 g C (m_many_b236 n) (o_m_many_b236 n) ih st x1 x2 x3 x5 x6 x7 x8 x9 x10 x11 x12 x13 x14 ((x12 + ((4 : Int32) * x14)) &&& (67108860 : Int32)) x13 ((x12 + ((4 : Int32) * x14)) &&& (67108860 : Int32)) (0 : Int32) H locs ls hI (lv_sub hl [1, 2, 3, 4, 5, 6, 7, 8, 9, 10, 11, 12, 13, 14, 0] rfl) hO X hF
      · have hF := hF.trans (if_pos c_261)
        have hO := hO.1 c_261
        refine lv_iconst (v := (1 : Int32)) hx hb dX11_many_264 (by decide) ?_
        refine lv_goto (tgt := 269) hx hb dX11_many_265 (by decide) ?_
        exact k_m_many_b269 g C (m_many_b236 n) (o_m_many_b236 n) ih st x1 x2 x3 x5 x6 x7 x8 x9 x10 x11 x12 x13 x14 ((x12 + ((4 : Int32) * x14)) &&& (67108860 : Int32)) x13 ((x12 + ((4 : Int32) * x14)) &&& (67108860 : Int32)) (1 : Int32) H locs ls hI (lv_sub hl [1, 2, 3, 4, 5, 6, 7, 8, 9, 10, 11, 12, 13, 14, 0] rfl) hO X hF
def m_many_b236t (st : CS) (x1 : Int32) (x2 : Int32) (x3 : Int32) (x5 : Int32) (x6 : Int32) (x7 : Int32) (x8 : Int32) (x9 : Int32) (x10 : Int32) (x11 : Int32) (x12 : Int32) (x13 : Int32) (x14 : Int32) : CS × Int32 := (m_many_b236 (17) st x1 x2 x3 x5 x6 x7 x8 x9 x10 x11 x12 x13 x14).getD (st, 0)
def o_m_many_b236t (st : CS) (x1 : Int32) (x2 : Int32) (x3 : Int32) (x5 : Int32) (x6 : Int32) (x7 : Int32) (x8 : Int32) (x9 : Int32) (x10 : Int32) (x11 : Int32) (x12 : Int32) (x13 : Int32) (x14 : Int32) : Prop := o_m_many_b236 (17) st x1 x2 x3 x5 x6 x7 x8 x9 x10 x11 x12 x13 x14 ∧ ∃ r, m_many_b236 (17) st x1 x2 x3 x5 x6 x7 x8 x9 x10 x11 x12 x13 x14 = some r
set_option maxHeartbeats 4000000 in
set_option maxRecDepth 100000 in
theorem k_m_many_b236t {p : Program} {l : Launch} {e : Env} {s : State} {m : MethodId} {args : Array Value} {below : List Frame} {meth : Method} {c : Code} {A : Nat → Prop} (g : Gm) (C : cX p s m args meth c A cX11_many (some .int) 21 RX11 wq_X11_many (gD g) vwCl (mty g) (mz g)) (st : CS) (x1 : Int32) (x2 : Int32) (x3 : Int32) (x5 : Int32) (x6 : Int32) (x7 : Int32) (x8 : Int32) (x9 : Int32) (x10 : Int32) (x11 : Int32) (x12 : Int32) (x13 : Int32) (x14 : Int32) (H : Heap) (locs : List Loc) (ls : Array Slot) (hI : cI (gD g) vwCl (mw g) A s st H locs) (hl : lv_has ls 21 [(0, .ref (gad g 0)), (1, .int x1), (2, .int x2), (3, .int x3), (5, .int x5), (6, .int x6), (7, .int x7), (8, .int x8), (9, .int x9), (10, .int x10), (11, .int x11), (12, .int x12), (13, .int x13), (14, .int x14)]) (hO : o_m_many_b236t st x1 x2 x3 x5 x6 x7 x8 x9 x10 x11 x12 x13 x14) (X : CS × Int32) (hF : X = m_many_b236t st x1 x2 x3 x5 x6 x7 x8 x9 x10 x11 x12 x13 x14) : W p l e rm_m_many s m args below meth c H locs 0 0 (MQ below (cQi (gD g) vwCl (mty g) (mw g) A X.1 X.2) args s 0 0 A) (F0 m 236 ls []) := by
  refine k_m_many_b236 g C (17) st x1 x2 x3 x5 x6 x7 x8 x9 x10 x11 x12 x13 x14 H locs ls hI hl hO.1 X ?_
  rw [hF]
  exact some_getD hO.2
def m_many_b206 (st : CS) (x1 : Int32) (x2 : Int32) (x3 : Int32) (x5 : Int32) (x6 : Int32) (x7 : Int32) (x8 : Int32) (x9 : Int32) (x10 : Int32) (x11 : Int32) (y0 : Int32) : CS × Int32 := (if ((ushr y0 (26 : Int32)) = 0) then (m_many_b236t st x1 x2 x3 x5 x6 x7 x8 x9 x10 x11 y0 (m_mode st) (0 : Int32)) else ((m_trap st (4 : Int32) (3 : Int32) (20 : Int32) (8 : Int32)).1, (m_trap st (4 : Int32) (3 : Int32) (20 : Int32) (8 : Int32)).2))
def o_m_many_b206 (st : CS) (x1 : Int32) (x2 : Int32) (x3 : Int32) (x5 : Int32) (x6 : Int32) (x7 : Int32) (x8 : Int32) (x9 : Int32) (x10 : Int32) (x11 : Int32) (y0 : Int32) : Prop := ((((ushr y0 (26 : Int32)) = 0) → (o_m_many_b236t st x1 x2 x3 x5 x6 x7 x8 x9 x10 x11 y0 (m_mode st) (0 : Int32))) ∧ (¬ ((ushr y0 (26 : Int32)) = 0) → ((o_m_trap st (4 : Int32) (3 : Int32) (20 : Int32) (8 : Int32)) ∧ True)))
set_option maxHeartbeats 4000000 in
set_option maxRecDepth 100000 in
theorem k_m_many_b206 {p : Program} {l : Launch} {e : Env} {s : State} {m : MethodId} {args : Array Value} {below : List Frame} {meth : Method} {c : Code} {A : Nat → Prop} (g : Gm) (C : cX p s m args meth c A cX11_many (some .int) 21 RX11 wq_X11_many (gD g) vwCl (mty g) (mz g)) (st : CS) (x1 : Int32) (x2 : Int32) (x3 : Int32) (x5 : Int32) (x6 : Int32) (x7 : Int32) (x8 : Int32) (x9 : Int32) (x10 : Int32) (x11 : Int32) (y0 : Int32) (H : Heap) (locs : List Loc) (ls : Array Slot) (hI : cI (gD g) vwCl (mw g) A s st H locs) (hl : lv_has ls 21 [(0, .ref (gad g 0)), (1, .int x1), (2, .int x2), (3, .int x3), (5, .int x5), (6, .int x6), (7, .int x7), (8, .int x8), (9, .int x9), (10, .int x10), (11, .int x11)]) (hO : o_m_many_b206 st x1 x2 x3 x5 x6 x7 x8 x9 x10 x11 y0) (X : CS × Int32) (hF : X = m_many_b206 st x1 x2 x3 x5 x6 x7 x8 x9 x10 x11 y0) : W p l e rm_m_many s m args below meth c H locs 0 0 (MQ below (cQi (gD g) vwCl (mty g) (mw g) A X.1 X.2) args s 0 0 A) (F0 m 206 ls [.int y0]) := by
  obtain ⟨hx, hb, hr, hml, hown, hts, hlocks, hK, hA, hZ, hzo⟩ := id C
  unfold m_many_b206 at hF
  unfold o_m_many_b206 at hO
  refine lv_istore (lv' := [(12, .int y0), (0, .ref (gad g 0)), (1, .int x1), (2, .int x2), (3, .int x3), (5, .int x5), (6, .int x6), (7, .int x7), (8, .int x8), (9, .int x9), (10, .int x10), (11, .int x11)]) hx hb dX11_many_206 hl (by decide) rfl (fun ls hl => ?_)
  refine lv_iload hx hb dX11_many_208 (lv_at hl 0 rfl) ?_
  refine lv_bipush (v := (26 : Int32)) hx hb dX11_many_210 (by decide) ?_
  refine lv_iushr (v := (ushr y0 (26 : Int32))) hx hb dX11_many_212 rfl ?_
  refine lv_if_eq (tgt := 227) hx hb dX11_many_213 (by decide) (fun c_213 => ?_) (fun c_213 => ?_)
  · have hF := hF.trans (if_pos c_213)
    have hO := hO.1 c_213
    refine lv_aload_n hx hb dX11_many_227 rfl (lv_at hl 1 rfl) ?_
    refine cx_Vi (As := []) (rest := []) C (c_m_mode l g st ) (cwV 0 hts (gd_V _ mw796 mw797 mw798 mw3 mw799) rfl rfl rfl yd_yX11_mode ⟨Nat.le_of_ble_eq_true rfl, Nat.le_of_ble_eq_true rfl⟩) (va_recv hK hI.1 (ci := 11) (q0 := 0) rfl rfl) hI rfl hl.1 rfl (Nat.le_of_ble_eq_true rfl) dX11_many_228 (fun H locs hI => ?_)
    refine lv_istore (lv' := [(13, .int (m_mode st)), (12, .int y0), (0, .ref (gad g 0)), (1, .int x1), (2, .int x2), (3, .int x3), (5, .int x5), (6, .int x6), (7, .int x7), (8, .int x8), (9, .int x9), (10, .int x10), (11, .int x11)]) hx hb dX11_many_231 hl (by decide) rfl (fun ls hl => ?_)
    refine lv_iconst (v := (0 : Int32)) hx hb dX11_many_233 (by decide) ?_
    refine lv_istore (lv' := [(14, .int (0 : Int32)), (13, .int (m_mode st)), (12, .int y0), (0, .ref (gad g 0)), (1, .int x1), (2, .int x2), (3, .int x3), (5, .int x5), (6, .int x6), (7, .int x7), (8, .int x8), (9, .int x9), (10, .int x10), (11, .int x11)]) hx hb dX11_many_234 hl (by decide) rfl (fun ls hl => ?_)
    exact k_m_many_b236t g C st x1 x2 x3 x5 x6 x7 x8 x9 x10 x11 y0 (m_mode st) (0 : Int32) H locs ls hI (lv_sub hl [3, 4, 5, 6, 7, 8, 9, 10, 11, 12, 13, 2, 1, 0] rfl) hO X hF
  · have hF := hF.trans (if_neg c_213)
    have hO := hO.2 c_213
    refine lv_aload_n hx hb dX11_many_216 rfl (lv_at hl 1 rfl) ?_
    refine lv_iconst (v := (4 : Int32)) hx hb dX11_many_217 (by decide) ?_
    refine lv_iconst (v := (3 : Int32)) hx hb dX11_many_218 (by decide) ?_
    refine lv_bipush (v := (20 : Int32)) hx hb dX11_many_219 (by decide) ?_
    refine lv_bipush (v := (8 : Int32)) hx hb dX11_many_221 (by decide) ?_
    have hq_223_0 := hO.1
    have hO := hO.2
    refine cx_Vi (As := [.int (4 : Int32), .int (3 : Int32), .int (20 : Int32), .int (8 : Int32)]) (rest := []) C (c_m_trap l g st (4 : Int32) (3 : Int32) (20 : Int32) (8 : Int32) hq_223_0) (cwV 4 hts (gd_V _ mw765 mw766 mw767 mw3 mw768) rfl rfl rfl yd_yX11_trap ⟨Nat.le_of_ble_eq_true rfl, Nat.le_of_ble_eq_true rfl⟩) (va_recv hK hI.1 (ci := 11) (q0 := 0) rfl rfl) hI rfl hl.1 rfl (Nat.le_of_ble_eq_true rfl) dX11_many_223 (fun H locs hI => ?_)
    exact cx_iret C hI (congrArg Prod.fst hF) (congrArg Prod.snd hF) dX11_many_226
def m_many_b143 (st : CS) (x1 : Int32) (x2 : Int32) (x3 : Int32) (x4 : Int32) (x5 : Int32) (x6 : Int32) (x7 : Int32) (x8 : Int32) (y0 : Int32) : CS × Int32 := (if (x5 = 0) then (if (x4 = 0) then (m_many_b206 st x1 x2 x3 x5 x6 x7 x8 y0 ((x1 >>> ((16 : Int32) &&& 31)) &&& (15 : Int32)) (m_operand st ((x1 >>> ((16 : Int32) &&& 31)) &&& (15 : Int32))) (((m_operand st ((x1 >>> ((16 : Int32) &&& 31)) &&& (15 : Int32))) - ((4 : Int32) * x2)) + (4 : Int32))) else (m_many_b206 st x1 x2 x3 x5 x6 x7 x8 y0 ((x1 >>> ((16 : Int32) &&& 31)) &&& (15 : Int32)) (m_operand st ((x1 >>> ((16 : Int32) &&& 31)) &&& (15 : Int32))) ((m_operand st ((x1 >>> ((16 : Int32) &&& 31)) &&& (15 : Int32))) - ((4 : Int32) * x2)))) else (if (x4 = 0) then (m_many_b206 st x1 x2 x3 x5 x6 x7 x8 y0 ((x1 >>> ((16 : Int32) &&& 31)) &&& (15 : Int32)) (m_operand st ((x1 >>> ((16 : Int32) &&& 31)) &&& (15 : Int32))) (m_operand st ((x1 >>> ((16 : Int32) &&& 31)) &&& (15 : Int32)))) else (m_many_b206 st x1 x2 x3 x5 x6 x7 x8 y0 ((x1 >>> ((16 : Int32) &&& 31)) &&& (15 : Int32)) (m_operand st ((x1 >>> ((16 : Int32) &&& 31)) &&& (15 : Int32))) ((m_operand st ((x1 >>> ((16 : Int32) &&& 31)) &&& (15 : Int32))) + (4 : Int32)))))
def o_m_many_b143 (st : CS) (x1 : Int32) (x2 : Int32) (x3 : Int32) (x4 : Int32) (x5 : Int32) (x6 : Int32) (x7 : Int32) (x8 : Int32) (y0 : Int32) : Prop := ((o_m_operand st ((x1 >>> ((16 : Int32) &&& 31)) &&& (15 : Int32))) ∧ (((x5 = 0) → (((x4 = 0) → (o_m_many_b206 st x1 x2 x3 x5 x6 x7 x8 y0 ((x1 >>> ((16 : Int32) &&& 31)) &&& (15 : Int32)) (m_operand st ((x1 >>> ((16 : Int32) &&& 31)) &&& (15 : Int32))) (((m_operand st ((x1 >>> ((16 : Int32) &&& 31)) &&& (15 : Int32))) - ((4 : Int32) * x2)) + (4 : Int32)))) ∧ (¬ (x4 = 0) → (o_m_many_b206 st x1 x2 x3 x5 x6 x7 x8 y0 ((x1 >>> ((16 : Int32) &&& 31)) &&& (15 : Int32)) (m_operand st ((x1 >>> ((16 : Int32) &&& 31)) &&& (15 : Int32))) ((m_operand st ((x1 >>> ((16 : Int32) &&& 31)) &&& (15 : Int32))) - ((4 : Int32) * x2)))))) ∧ (¬ (x5 = 0) → (((x4 = 0) → (o_m_many_b206 st x1 x2 x3 x5 x6 x7 x8 y0 ((x1 >>> ((16 : Int32) &&& 31)) &&& (15 : Int32)) (m_operand st ((x1 >>> ((16 : Int32) &&& 31)) &&& (15 : Int32))) (m_operand st ((x1 >>> ((16 : Int32) &&& 31)) &&& (15 : Int32))))) ∧ (¬ (x4 = 0) → (o_m_many_b206 st x1 x2 x3 x5 x6 x7 x8 y0 ((x1 >>> ((16 : Int32) &&& 31)) &&& (15 : Int32)) (m_operand st ((x1 >>> ((16 : Int32) &&& 31)) &&& (15 : Int32))) ((m_operand st ((x1 >>> ((16 : Int32) &&& 31)) &&& (15 : Int32))) + (4 : Int32))))))))
set_option maxHeartbeats 4000000 in
set_option maxRecDepth 100000 in
theorem k_m_many_b143 {p : Program} {l : Launch} {e : Env} {s : State} {m : MethodId} {args : Array Value} {below : List Frame} {meth : Method} {c : Code} {A : Nat → Prop} (g : Gm) (C : cX p s m args meth c A cX11_many (some .int) 21 RX11 wq_X11_many (gD g) vwCl (mty g) (mz g)) (st : CS) (x1 : Int32) (x2 : Int32) (x3 : Int32) (x4 : Int32) (x5 : Int32) (x6 : Int32) (x7 : Int32) (x8 : Int32) (y0 : Int32) (H : Heap) (locs : List Loc) (ls : Array Slot) (hI : cI (gD g) vwCl (mw g) A s st H locs) (hl : lv_has ls 21 [(0, .ref (gad g 0)), (1, .int x1), (2, .int x2), (3, .int x3), (4, .int x4), (5, .int x5), (6, .int x6), (7, .int x7), (8, .int x8)]) (hO : o_m_many_b143 st x1 x2 x3 x4 x5 x6 x7 x8 y0) (X : CS × Int32) (hF : X = m_many_b143 st x1 x2 x3 x4 x5 x6 x7 x8 y0) : W p l e rm_m_many s m args below meth c H locs 0 0 (MQ below (cQi (gD g) vwCl (mty g) (mw g) A X.1 X.2) args s 0 0 A) (F0 m 143 ls [.int y0]) := by
  obtain ⟨hx, hb, hr, hml, hown, hts, hlocks, hK, hA, hZ, hzo⟩ := id C
  unfold m_many_b143 at hF
  unfold o_m_many_b143 at hO
  refine lv_istore (lv' := [(9, .int y0), (0, .ref (gad g 0)), (1, .int x1), (2, .int x2), (3, .int x3), (4, .int x4), (5, .int x5), (6, .int x6), (7, .int x7), (8, .int x8)]) hx hb dX11_many_143 hl (by decide) rfl (fun ls hl => ?_)
  refine lv_iload_n hx hb dX11_many_145 rfl (lv_at hl 2 rfl) ?_
  refine lv_bipush (v := (16 : Int32)) hx hb dX11_many_146 (by decide) ?_
  refine lv_ishr hx hb dX11_many_148 ?_
  refine lv_bipush (v := (15 : Int32)) hx hb dX11_many_149 (by decide) ?_
  refine lv_iand hx hb dX11_many_151 ?_
  refine lv_istore (lv' := [(10, .int ((x1 >>> ((16 : Int32) &&& 31)) &&& (15 : Int32))), (9, .int y0), (0, .ref (gad g 0)), (1, .int x1), (2, .int x2), (3, .int x3), (4, .int x4), (5, .int x5), (6, .int x6), (7, .int x7), (8, .int x8)]) hx hb dX11_many_152 hl (by decide) rfl (fun ls hl => ?_)
  refine lv_aload_n hx hb dX11_many_154 rfl (lv_at hl 2 rfl) ?_
  refine lv_iload hx hb dX11_many_155 (lv_at hl 0 rfl) ?_
  have hq_157_0 := hO.1
  have hO := hO.2
  refine cx_Vi (As := [.int ((x1 >>> ((16 : Int32) &&& 31)) &&& (15 : Int32))]) (rest := []) C (c_m_operand l g st ((x1 >>> ((16 : Int32) &&& 31)) &&& (15 : Int32)) hq_157_0) (cwV 1 hts (gd_V _ mw826 mw827 mw828 mw3 mw829) rfl rfl rfl yd_yX11_operand ⟨Nat.le_of_ble_eq_true rfl, Nat.le_of_ble_eq_true rfl⟩) (va_recv hK hI.1 (ci := 11) (q0 := 0) rfl rfl) hI rfl hl.1 rfl (Nat.le_of_ble_eq_true rfl) dX11_many_157 (fun H locs hI => ?_)
  refine lv_istore (lv' := [(11, .int (m_operand st ((x1 >>> ((16 : Int32) &&& 31)) &&& (15 : Int32)))), (10, .int ((x1 >>> ((16 : Int32) &&& 31)) &&& (15 : Int32))), (9, .int y0), (0, .ref (gad g 0)), (1, .int x1), (2, .int x2), (3, .int x3), (4, .int x4), (5, .int x5), (6, .int x6), (7, .int x7), (8, .int x8)]) hx hb dX11_many_160 hl (by decide) rfl (fun ls hl => ?_)
  refine lv_iload hx hb dX11_many_162 (lv_at hl 8 rfl) ?_
  refine lv_if_eq (tgt := 184) hx hb dX11_many_164 (by decide) (fun c_164 => ?_) (fun c_164 => ?_)
  · have hF := hF.trans (if_pos c_164)
    have hO := hO.1 c_164
    refine lv_iload hx hb dX11_many_184 (lv_at hl 7 rfl) ?_
    refine lv_if_eq (tgt := 198) hx hb dX11_many_186 (by decide) (fun c_186 => ?_) (fun c_186 => ?_)
    · have hF := hF.trans (if_pos c_186)
      have hO := hO.1 c_186
      refine lv_iload hx hb dX11_many_198 (lv_at hl 0 rfl) ?_
      refine lv_iconst (v := (4 : Int32)) hx hb dX11_many_200 (by decide) ?_
      refine lv_iload_n hx hb dX11_many_201 rfl (lv_at hl 5 rfl) ?_
      refine lv_imul hx hb dX11_many_202 ?_
      refine lv_isub hx hb dX11_many_203 ?_
      refine lv_iconst (v := (4 : Int32)) hx hb dX11_many_204 (by decide) ?_
      refine lv_iadd hx hb dX11_many_205 ?_
      exact k_m_many_b206 g C st x1 x2 x3 x5 x6 x7 x8 y0 ((x1 >>> ((16 : Int32) &&& 31)) &&& (15 : Int32)) (m_operand st ((x1 >>> ((16 : Int32) &&& 31)) &&& (15 : Int32))) (((m_operand st ((x1 >>> ((16 : Int32) &&& 31)) &&& (15 : Int32))) - ((4 : Int32) * x2)) + (4 : Int32)) H locs ls hI (lv_sub hl [3, 4, 5, 6, 8, 9, 10, 11, 2, 1, 0] rfl) hO X hF
    · have hF := hF.trans (if_neg c_186)
      have hO := hO.2 c_186
      refine lv_iload hx hb dX11_many_189 (lv_at hl 0 rfl) ?_
      refine lv_iconst (v := (4 : Int32)) hx hb dX11_many_191 (by decide) ?_
      refine lv_iload_n hx hb dX11_many_192 rfl (lv_at hl 5 rfl) ?_
      refine lv_imul hx hb dX11_many_193 ?_
      refine lv_isub hx hb dX11_many_194 ?_
      refine lv_goto (tgt := 206) hx hb dX11_many_195 (by decide) ?_
      exact k_m_many_b206 g C st x1 x2 x3 x5 x6 x7 x8 y0 ((x1 >>> ((16 : Int32) &&& 31)) &&& (15 : Int32)) (m_operand st ((x1 >>> ((16 : Int32) &&& 31)) &&& (15 : Int32))) ((m_operand st ((x1 >>> ((16 : Int32) &&& 31)) &&& (15 : Int32))) - ((4 : Int32) * x2)) H locs ls hI (lv_sub hl [3, 4, 5, 6, 8, 9, 10, 11, 2, 1, 0] rfl) hO X hF
  · have hF := hF.trans (if_neg c_164)
    have hO := hO.2 c_164
    refine lv_iload hx hb dX11_many_167 (lv_at hl 7 rfl) ?_
    refine lv_if_eq (tgt := 179) hx hb dX11_many_169 (by decide) (fun c_169 => ?_) (fun c_169 => ?_)
    · have hF := hF.trans (if_pos c_169)
      have hO := hO.1 c_169
      refine lv_iload hx hb dX11_many_179 (lv_at hl 0 rfl) ?_
      refine lv_goto (tgt := 206) hx hb dX11_many_181 (by decide) ?_
      exact k_m_many_b206 g C st x1 x2 x3 x5 x6 x7 x8 y0 ((x1 >>> ((16 : Int32) &&& 31)) &&& (15 : Int32)) (m_operand st ((x1 >>> ((16 : Int32) &&& 31)) &&& (15 : Int32))) (m_operand st ((x1 >>> ((16 : Int32) &&& 31)) &&& (15 : Int32))) H locs ls hI (lv_sub hl [3, 4, 5, 6, 8, 9, 10, 11, 2, 1, 0] rfl) hO X hF
    · have hF := hF.trans (if_neg c_169)
      have hO := hO.2 c_169
      refine lv_iload hx hb dX11_many_172 (lv_at hl 0 rfl) ?_
      refine lv_iconst (v := (4 : Int32)) hx hb dX11_many_174 (by decide) ?_
      refine lv_iadd hx hb dX11_many_175 ?_
      refine lv_goto (tgt := 206) hx hb dX11_many_176 (by decide) ?_
      exact k_m_many_b206 g C st x1 x2 x3 x5 x6 x7 x8 y0 ((x1 >>> ((16 : Int32) &&& 31)) &&& (15 : Int32)) (m_operand st ((x1 >>> ((16 : Int32) &&& 31)) &&& (15 : Int32))) ((m_operand st ((x1 >>> ((16 : Int32) &&& 31)) &&& (15 : Int32))) + (4 : Int32)) H locs ls hI (lv_sub hl [3, 4, 5, 6, 8, 9, 10, 11, 2, 1, 0] rfl) hO X hF
def m_many_b126 (st : CS) (x1 : Int32) (x2 : Int32) (x3 : Int32) (x4 : Int32) (x5 : Int32) (x6 : Int32) (x7 : Int32) (y0 : Int32) : CS × Int32 := (if (((x1 >>> ((15 : Int32) &&& 31)) &&& (1 : Int32)) = (1 : Int32)) then (m_many_b143 st x1 x2 x3 x4 x5 x6 x7 y0 (1 : Int32)) else (m_many_b143 st x1 x2 x3 x4 x5 x6 x7 y0 (0 : Int32)))
def o_m_many_b126 (st : CS) (x1 : Int32) (x2 : Int32) (x3 : Int32) (x4 : Int32) (x5 : Int32) (x6 : Int32) (x7 : Int32) (y0 : Int32) : Prop := (((((x1 >>> ((15 : Int32) &&& 31)) &&& (1 : Int32)) = (1 : Int32)) → (o_m_many_b143 st x1 x2 x3 x4 x5 x6 x7 y0 (1 : Int32))) ∧ (¬ (((x1 >>> ((15 : Int32) &&& 31)) &&& (1 : Int32)) = (1 : Int32)) → (o_m_many_b143 st x1 x2 x3 x4 x5 x6 x7 y0 (0 : Int32))))
set_option maxHeartbeats 4000000 in
set_option maxRecDepth 100000 in
theorem k_m_many_b126 {p : Program} {l : Launch} {e : Env} {s : State} {m : MethodId} {args : Array Value} {below : List Frame} {meth : Method} {c : Code} {A : Nat → Prop} (g : Gm) (C : cX p s m args meth c A cX11_many (some .int) 21 RX11 wq_X11_many (gD g) vwCl (mty g) (mz g)) (st : CS) (x1 : Int32) (x2 : Int32) (x3 : Int32) (x4 : Int32) (x5 : Int32) (x6 : Int32) (x7 : Int32) (y0 : Int32) (H : Heap) (locs : List Loc) (ls : Array Slot) (hI : cI (gD g) vwCl (mw g) A s st H locs) (hl : lv_has ls 21 [(0, .ref (gad g 0)), (1, .int x1), (2, .int x2), (3, .int x3), (4, .int x4), (5, .int x5), (6, .int x6), (7, .int x7)]) (hO : o_m_many_b126 st x1 x2 x3 x4 x5 x6 x7 y0) (X : CS × Int32) (hF : X = m_many_b126 st x1 x2 x3 x4 x5 x6 x7 y0) : W p l e rm_m_many s m args below meth c H locs 0 0 (MQ below (cQi (gD g) vwCl (mty g) (mw g) A X.1 X.2) args s 0 0 A) (F0 m 126 ls [.int y0]) := by
  obtain ⟨hx, hb, hr, hml, hown, hts, hlocks, hK, hA, hZ, hzo⟩ := id C
  unfold m_many_b126 at hF
  unfold o_m_many_b126 at hO
  refine lv_istore (lv' := [(8, .int y0), (0, .ref (gad g 0)), (1, .int x1), (2, .int x2), (3, .int x3), (4, .int x4), (5, .int x5), (6, .int x6), (7, .int x7)]) hx hb dX11_many_126 hl (by decide) rfl (fun ls hl => ?_)
  refine lv_iload_n hx hb dX11_many_128 rfl (lv_at hl 2 rfl) ?_
  refine lv_bipush (v := (15 : Int32)) hx hb dX11_many_129 (by decide) ?_
  refine lv_ishr hx hb dX11_many_131 ?_
  refine lv_iconst (v := (1 : Int32)) hx hb dX11_many_132 (by decide) ?_
  refine lv_iand hx hb dX11_many_133 ?_
  refine lv_iconst (v := (1 : Int32)) hx hb dX11_many_134 (by decide) ?_
  refine lv_icmp_ne (tgt := 142) hx hb dX11_many_135 (by decide) (fun c_135 => ?_) (fun c_135 => ?_)
  · have hF := hF.trans (if_neg c_135)
    have hO := hO.2 c_135
    refine lv_iconst (v := (0 : Int32)) hx hb dX11_many_142 (by decide) ?_
    exact k_m_many_b143 g C st x1 x2 x3 x4 x5 x6 x7 y0 (0 : Int32) H locs ls hI (lv_sub hl [1, 2, 3, 4, 5, 6, 7, 8, 0] rfl) hO X hF
  · have hF := hF.trans (if_pos c_135)
    have hO := hO.1 c_135
    refine lv_iconst (v := (1 : Int32)) hx hb dX11_many_138 (by decide) ?_
    refine lv_goto (tgt := 143) hx hb dX11_many_139 (by decide) ?_
    exact k_m_many_b143 g C st x1 x2 x3 x4 x5 x6 x7 y0 (1 : Int32) H locs ls hI (lv_sub hl [1, 2, 3, 4, 5, 6, 7, 8, 0] rfl) hO X hF
def m_many_b109 (st : CS) (x1 : Int32) (x2 : Int32) (x3 : Int32) (x4 : Int32) (x5 : Int32) (x6 : Int32) (y0 : Int32) : CS × Int32 := (if (((x1 >>> ((20 : Int32) &&& 31)) &&& (1 : Int32)) = (1 : Int32)) then (m_many_b126 st x1 x2 x3 x4 x5 x6 y0 (1 : Int32)) else (m_many_b126 st x1 x2 x3 x4 x5 x6 y0 (0 : Int32)))
def o_m_many_b109 (st : CS) (x1 : Int32) (x2 : Int32) (x3 : Int32) (x4 : Int32) (x5 : Int32) (x6 : Int32) (y0 : Int32) : Prop := (((((x1 >>> ((20 : Int32) &&& 31)) &&& (1 : Int32)) = (1 : Int32)) → (o_m_many_b126 st x1 x2 x3 x4 x5 x6 y0 (1 : Int32))) ∧ (¬ (((x1 >>> ((20 : Int32) &&& 31)) &&& (1 : Int32)) = (1 : Int32)) → (o_m_many_b126 st x1 x2 x3 x4 x5 x6 y0 (0 : Int32))))
set_option maxHeartbeats 4000000 in
set_option maxRecDepth 100000 in
theorem k_m_many_b109 {p : Program} {l : Launch} {e : Env} {s : State} {m : MethodId} {args : Array Value} {below : List Frame} {meth : Method} {c : Code} {A : Nat → Prop} (g : Gm) (C : cX p s m args meth c A cX11_many (some .int) 21 RX11 wq_X11_many (gD g) vwCl (mty g) (mz g)) (st : CS) (x1 : Int32) (x2 : Int32) (x3 : Int32) (x4 : Int32) (x5 : Int32) (x6 : Int32) (y0 : Int32) (H : Heap) (locs : List Loc) (ls : Array Slot) (hI : cI (gD g) vwCl (mw g) A s st H locs) (hl : lv_has ls 21 [(0, .ref (gad g 0)), (1, .int x1), (2, .int x2), (3, .int x3), (4, .int x4), (5, .int x5), (6, .int x6)]) (hO : o_m_many_b109 st x1 x2 x3 x4 x5 x6 y0) (X : CS × Int32) (hF : X = m_many_b109 st x1 x2 x3 x4 x5 x6 y0) : W p l e rm_m_many s m args below meth c H locs 0 0 (MQ below (cQi (gD g) vwCl (mty g) (mw g) A X.1 X.2) args s 0 0 A) (F0 m 109 ls [.int y0]) := by
  obtain ⟨hx, hb, hr, hml, hown, hts, hlocks, hK, hA, hZ, hzo⟩ := id C
  unfold m_many_b109 at hF
  unfold o_m_many_b109 at hO
  refine lv_istore (lv' := [(7, .int y0), (0, .ref (gad g 0)), (1, .int x1), (2, .int x2), (3, .int x3), (4, .int x4), (5, .int x5), (6, .int x6)]) hx hb dX11_many_109 hl (by decide) rfl (fun ls hl => ?_)
  refine lv_iload_n hx hb dX11_many_111 rfl (lv_at hl 2 rfl) ?_
  refine lv_bipush (v := (20 : Int32)) hx hb dX11_many_112 (by decide) ?_
  refine lv_ishr hx hb dX11_many_114 ?_
  refine lv_iconst (v := (1 : Int32)) hx hb dX11_many_115 (by decide) ?_
  refine lv_iand hx hb dX11_many_116 ?_
  refine lv_iconst (v := (1 : Int32)) hx hb dX11_many_117 (by decide) ?_
  refine lv_icmp_ne (tgt := 125) hx hb dX11_many_118 (by decide) (fun c_118 => ?_) (fun c_118 => ?_)
  · have hF := hF.trans (if_neg c_118)
    have hO := hO.2 c_118
    refine lv_iconst (v := (0 : Int32)) hx hb dX11_many_125 (by decide) ?_
    exact k_m_many_b126 g C st x1 x2 x3 x4 x5 x6 y0 (0 : Int32) H locs ls hI (lv_sub hl [1, 2, 3, 4, 5, 6, 7, 0] rfl) hO X hF
  · have hF := hF.trans (if_pos c_118)
    have hO := hO.1 c_118
    refine lv_iconst (v := (1 : Int32)) hx hb dX11_many_121 (by decide) ?_
    refine lv_goto (tgt := 126) hx hb dX11_many_122 (by decide) ?_
    exact k_m_many_b126 g C st x1 x2 x3 x4 x5 x6 y0 (1 : Int32) H locs ls hI (lv_sub hl [1, 2, 3, 4, 5, 6, 7, 0] rfl) hO X hF
def m_many_b92 (st : CS) (x1 : Int32) (x2 : Int32) (x3 : Int32) (x4 : Int32) (x5 : Int32) (y0 : Int32) : CS × Int32 := (if (((x1 >>> ((21 : Int32) &&& 31)) &&& (1 : Int32)) = (1 : Int32)) then (m_many_b109 st x1 x2 x3 x4 x5 y0 (1 : Int32)) else (m_many_b109 st x1 x2 x3 x4 x5 y0 (0 : Int32)))
def o_m_many_b92 (st : CS) (x1 : Int32) (x2 : Int32) (x3 : Int32) (x4 : Int32) (x5 : Int32) (y0 : Int32) : Prop := (((((x1 >>> ((21 : Int32) &&& 31)) &&& (1 : Int32)) = (1 : Int32)) → (o_m_many_b109 st x1 x2 x3 x4 x5 y0 (1 : Int32))) ∧ (¬ (((x1 >>> ((21 : Int32) &&& 31)) &&& (1 : Int32)) = (1 : Int32)) → (o_m_many_b109 st x1 x2 x3 x4 x5 y0 (0 : Int32))))
set_option maxHeartbeats 4000000 in
set_option maxRecDepth 100000 in
theorem k_m_many_b92 {p : Program} {l : Launch} {e : Env} {s : State} {m : MethodId} {args : Array Value} {below : List Frame} {meth : Method} {c : Code} {A : Nat → Prop} (g : Gm) (C : cX p s m args meth c A cX11_many (some .int) 21 RX11 wq_X11_many (gD g) vwCl (mty g) (mz g)) (st : CS) (x1 : Int32) (x2 : Int32) (x3 : Int32) (x4 : Int32) (x5 : Int32) (y0 : Int32) (H : Heap) (locs : List Loc) (ls : Array Slot) (hI : cI (gD g) vwCl (mw g) A s st H locs) (hl : lv_has ls 21 [(0, .ref (gad g 0)), (1, .int x1), (2, .int x2), (3, .int x3), (4, .int x4), (5, .int x5)]) (hO : o_m_many_b92 st x1 x2 x3 x4 x5 y0) (X : CS × Int32) (hF : X = m_many_b92 st x1 x2 x3 x4 x5 y0) : W p l e rm_m_many s m args below meth c H locs 0 0 (MQ below (cQi (gD g) vwCl (mty g) (mw g) A X.1 X.2) args s 0 0 A) (F0 m 92 ls [.int y0]) := by
  obtain ⟨hx, hb, hr, hml, hown, hts, hlocks, hK, hA, hZ, hzo⟩ := id C
  unfold m_many_b92 at hF
  unfold o_m_many_b92 at hO
  refine lv_istore (lv' := [(6, .int y0), (0, .ref (gad g 0)), (1, .int x1), (2, .int x2), (3, .int x3), (4, .int x4), (5, .int x5)]) hx hb dX11_many_92 hl (by decide) rfl (fun ls hl => ?_)
  refine lv_iload_n hx hb dX11_many_94 rfl (lv_at hl 2 rfl) ?_
  refine lv_bipush (v := (21 : Int32)) hx hb dX11_many_95 (by decide) ?_
  refine lv_ishr hx hb dX11_many_97 ?_
  refine lv_iconst (v := (1 : Int32)) hx hb dX11_many_98 (by decide) ?_
  refine lv_iand hx hb dX11_many_99 ?_
  refine lv_iconst (v := (1 : Int32)) hx hb dX11_many_100 (by decide) ?_
  refine lv_icmp_ne (tgt := 108) hx hb dX11_many_101 (by decide) (fun c_101 => ?_) (fun c_101 => ?_)
  · have hF := hF.trans (if_neg c_101)
    have hO := hO.2 c_101
    refine lv_iconst (v := (0 : Int32)) hx hb dX11_many_108 (by decide) ?_
    exact k_m_many_b109 g C st x1 x2 x3 x4 x5 y0 (0 : Int32) H locs ls hI (lv_sub hl [1, 2, 3, 4, 5, 6, 0] rfl) hO X hF
  · have hF := hF.trans (if_pos c_101)
    have hO := hO.1 c_101
    refine lv_iconst (v := (1 : Int32)) hx hb dX11_many_104 (by decide) ?_
    refine lv_goto (tgt := 109) hx hb dX11_many_105 (by decide) ?_
    exact k_m_many_b109 g C st x1 x2 x3 x4 x5 y0 (1 : Int32) H locs ls hI (lv_sub hl [1, 2, 3, 4, 5, 6, 0] rfl) hO X hF
def m_many_b75 (st : CS) (x1 : Int32) (x2 : Int32) (x3 : Int32) (x4 : Int32) (y0 : Int32) : CS × Int32 := (if (((x1 >>> ((22 : Int32) &&& 31)) &&& (1 : Int32)) = (1 : Int32)) then (m_many_b92 st x1 x2 x3 x4 y0 (1 : Int32)) else (m_many_b92 st x1 x2 x3 x4 y0 (0 : Int32)))
def o_m_many_b75 (st : CS) (x1 : Int32) (x2 : Int32) (x3 : Int32) (x4 : Int32) (y0 : Int32) : Prop := (((((x1 >>> ((22 : Int32) &&& 31)) &&& (1 : Int32)) = (1 : Int32)) → (o_m_many_b92 st x1 x2 x3 x4 y0 (1 : Int32))) ∧ (¬ (((x1 >>> ((22 : Int32) &&& 31)) &&& (1 : Int32)) = (1 : Int32)) → (o_m_many_b92 st x1 x2 x3 x4 y0 (0 : Int32))))
set_option maxHeartbeats 4000000 in
set_option maxRecDepth 100000 in
theorem k_m_many_b75 {p : Program} {l : Launch} {e : Env} {s : State} {m : MethodId} {args : Array Value} {below : List Frame} {meth : Method} {c : Code} {A : Nat → Prop} (g : Gm) (C : cX p s m args meth c A cX11_many (some .int) 21 RX11 wq_X11_many (gD g) vwCl (mty g) (mz g)) (st : CS) (x1 : Int32) (x2 : Int32) (x3 : Int32) (x4 : Int32) (y0 : Int32) (H : Heap) (locs : List Loc) (ls : Array Slot) (hI : cI (gD g) vwCl (mw g) A s st H locs) (hl : lv_has ls 21 [(0, .ref (gad g 0)), (1, .int x1), (2, .int x2), (3, .int x3), (4, .int x4)]) (hO : o_m_many_b75 st x1 x2 x3 x4 y0) (X : CS × Int32) (hF : X = m_many_b75 st x1 x2 x3 x4 y0) : W p l e rm_m_many s m args below meth c H locs 0 0 (MQ below (cQi (gD g) vwCl (mty g) (mw g) A X.1 X.2) args s 0 0 A) (F0 m 75 ls [.int y0]) := by
  obtain ⟨hx, hb, hr, hml, hown, hts, hlocks, hK, hA, hZ, hzo⟩ := id C
  unfold m_many_b75 at hF
  unfold o_m_many_b75 at hO
  refine lv_istore (lv' := [(5, .int y0), (0, .ref (gad g 0)), (1, .int x1), (2, .int x2), (3, .int x3), (4, .int x4)]) hx hb dX11_many_75 hl (by decide) rfl (fun ls hl => ?_)
  refine lv_iload_n hx hb dX11_many_77 rfl (lv_at hl 2 rfl) ?_
  refine lv_bipush (v := (22 : Int32)) hx hb dX11_many_78 (by decide) ?_
  refine lv_ishr hx hb dX11_many_80 ?_
  refine lv_iconst (v := (1 : Int32)) hx hb dX11_many_81 (by decide) ?_
  refine lv_iand hx hb dX11_many_82 ?_
  refine lv_iconst (v := (1 : Int32)) hx hb dX11_many_83 (by decide) ?_
  refine lv_icmp_ne (tgt := 91) hx hb dX11_many_84 (by decide) (fun c_84 => ?_) (fun c_84 => ?_)
  · have hF := hF.trans (if_neg c_84)
    have hO := hO.2 c_84
    refine lv_iconst (v := (0 : Int32)) hx hb dX11_many_91 (by decide) ?_
    exact k_m_many_b92 g C st x1 x2 x3 x4 y0 (0 : Int32) H locs ls hI (lv_sub hl [1, 2, 3, 4, 5, 0] rfl) hO X hF
  · have hF := hF.trans (if_pos c_84)
    have hO := hO.1 c_84
    refine lv_iconst (v := (1 : Int32)) hx hb dX11_many_87 (by decide) ?_
    refine lv_goto (tgt := 92) hx hb dX11_many_88 (by decide) ?_
    exact k_m_many_b92 g C st x1 x2 x3 x4 y0 (1 : Int32) H locs ls hI (lv_sub hl [1, 2, 3, 4, 5, 0] rfl) hO X hF
def m_many_b58 (st : CS) (x1 : Int32) (x2 : Int32) (x3 : Int32) (y0 : Int32) : CS × Int32 := (if (((x1 >>> ((23 : Int32) &&& 31)) &&& (1 : Int32)) = (1 : Int32)) then (m_many_b75 st x1 x2 x3 y0 (1 : Int32)) else (m_many_b75 st x1 x2 x3 y0 (0 : Int32)))
def o_m_many_b58 (st : CS) (x1 : Int32) (x2 : Int32) (x3 : Int32) (y0 : Int32) : Prop := (((((x1 >>> ((23 : Int32) &&& 31)) &&& (1 : Int32)) = (1 : Int32)) → (o_m_many_b75 st x1 x2 x3 y0 (1 : Int32))) ∧ (¬ (((x1 >>> ((23 : Int32) &&& 31)) &&& (1 : Int32)) = (1 : Int32)) → (o_m_many_b75 st x1 x2 x3 y0 (0 : Int32))))
set_option maxHeartbeats 4000000 in
set_option maxRecDepth 100000 in
theorem k_m_many_b58 {p : Program} {l : Launch} {e : Env} {s : State} {m : MethodId} {args : Array Value} {below : List Frame} {meth : Method} {c : Code} {A : Nat → Prop} (g : Gm) (C : cX p s m args meth c A cX11_many (some .int) 21 RX11 wq_X11_many (gD g) vwCl (mty g) (mz g)) (st : CS) (x1 : Int32) (x2 : Int32) (x3 : Int32) (y0 : Int32) (H : Heap) (locs : List Loc) (ls : Array Slot) (hI : cI (gD g) vwCl (mw g) A s st H locs) (hl : lv_has ls 21 [(0, .ref (gad g 0)), (1, .int x1), (2, .int x2), (3, .int x3)]) (hO : o_m_many_b58 st x1 x2 x3 y0) (X : CS × Int32) (hF : X = m_many_b58 st x1 x2 x3 y0) : W p l e rm_m_many s m args below meth c H locs 0 0 (MQ below (cQi (gD g) vwCl (mty g) (mw g) A X.1 X.2) args s 0 0 A) (F0 m 58 ls [.int y0]) := by
  obtain ⟨hx, hb, hr, hml, hown, hts, hlocks, hK, hA, hZ, hzo⟩ := id C
  unfold m_many_b58 at hF
  unfold o_m_many_b58 at hO
  refine lv_istore (lv' := [(4, .int y0), (0, .ref (gad g 0)), (1, .int x1), (2, .int x2), (3, .int x3)]) hx hb dX11_many_58 hl (by decide) rfl (fun ls hl => ?_)
  refine lv_iload_n hx hb dX11_many_60 rfl (lv_at hl 2 rfl) ?_
  refine lv_bipush (v := (23 : Int32)) hx hb dX11_many_61 (by decide) ?_
  refine lv_ishr hx hb dX11_many_63 ?_
  refine lv_iconst (v := (1 : Int32)) hx hb dX11_many_64 (by decide) ?_
  refine lv_iand hx hb dX11_many_65 ?_
  refine lv_iconst (v := (1 : Int32)) hx hb dX11_many_66 (by decide) ?_
  refine lv_icmp_ne (tgt := 74) hx hb dX11_many_67 (by decide) (fun c_67 => ?_) (fun c_67 => ?_)
  · have hF := hF.trans (if_neg c_67)
    have hO := hO.2 c_67
    refine lv_iconst (v := (0 : Int32)) hx hb dX11_many_74 (by decide) ?_
    exact k_m_many_b75 g C st x1 x2 x3 y0 (0 : Int32) H locs ls hI (lv_sub hl [1, 2, 3, 4, 0] rfl) hO X hF
  · have hF := hF.trans (if_pos c_67)
    have hO := hO.1 c_67
    refine lv_iconst (v := (1 : Int32)) hx hb dX11_many_70 (by decide) ?_
    refine lv_goto (tgt := 75) hx hb dX11_many_71 (by decide) ?_
    exact k_m_many_b75 g C st x1 x2 x3 y0 (1 : Int32) H locs ls hI (lv_sub hl [1, 2, 3, 4, 0] rfl) hO X hF
def m_many_b31 (rec : CS → Int32 → Int32 → Int32 → Int32 → Option (CS × Int32)) (st : CS) (x1 : Int32) (x2 : Int32) (x3 : Int32) (x4 : Int32) : Option (CS × Int32) := (rec st x1 x2 x3 (x4 + (-1 : Int32)))
def o_m_many_b31 (orec : CS → Int32 → Int32 → Int32 → Int32 → Prop) (st : CS) (x1 : Int32) (x2 : Int32) (x3 : Int32) (x4 : Int32) : Prop := (orec st x1 x2 x3 (x4 + (-1 : Int32)))
set_option maxHeartbeats 4000000 in
set_option maxRecDepth 100000 in
theorem k_m_many_b31 {p : Program} {l : Launch} {e : Env} {s : State} {m : MethodId} {args : Array Value} {below : List Frame} {meth : Method} {c : Code} {A : Nat → Prop} (g : Gm) (C : cX p s m args meth c A cX11_many (some .int) 21 RX11 wq_X11_many (gD g) vwCl (mty g) (mz g)) (rec : CS → Int32 → Int32 → Int32 → Int32 → Option (CS × Int32)) (orec : CS → Int32 → Int32 → Int32 → Int32 → Prop) (hrec : ∀ (st : CS) (x1 : Int32) (x2 : Int32) (x3 : Int32) (x4 : Int32) (H : Heap) (locs : List Loc) (ls : Array Slot), cI (gD g) vwCl (mw g) A s st H locs → lv_has ls 21 [(0, .ref (gad g 0)), (1, .int x1), (2, .int x2), (3, .int x3), (4, .int x4)] → orec st x1 x2 x3 x4 → ∀ (X : CS × Int32), some X = rec st x1 x2 x3 x4 → W p l e rm_m_many s m args below meth c H locs 0 0 (MQ below (cQi (gD g) vwCl (mty g) (mw g) A X.1 X.2) args s 0 0 A) (F0 m 8 ls [])) (st : CS) (x1 : Int32) (x2 : Int32) (x3 : Int32) (x4 : Int32) (H : Heap) (locs : List Loc) (ls : Array Slot) (hI : cI (gD g) vwCl (mw g) A s st H locs) (hl : lv_has ls 21 [(0, .ref (gad g 0)), (1, .int x1), (2, .int x2), (3, .int x3), (4, .int x4)]) (hO : o_m_many_b31 orec st x1 x2 x3 x4) (X : CS × Int32) (hF : some X = m_many_b31 rec st x1 x2 x3 x4) : W p l e rm_m_many s m args below meth c H locs 0 0 (MQ below (cQi (gD g) vwCl (mty g) (mw g) A X.1 X.2) args s 0 0 A) (F0 m 31 ls []) := by
  obtain ⟨hx, hb, hr, hml, hown, hts, hlocks, hK, hA, hZ, hzo⟩ := id C
  unfold m_many_b31 at hF
  unfold o_m_many_b31 at hO
  refine lv_iinc (v := (x4 + (-1 : Int32))) (lv' := [(4, .int (x4 + (-1 : Int32))), (0, .ref (gad g 0)), (1, .int x1), (2, .int x2), (3, .int x3)]) hx hb dX11_many_31 hl (k := 4) rfl rfl (by decide) rfl (fun ls hl => ?_)
  refine lv_goto (tgt := 8) hx hb dX11_many_34 (by decide) ?_
  exact hrec st x1 x2 x3 (x4 + (-1 : Int32)) H locs ls hI (lv_sub hl [1, 2, 3, 4, 0] rfl) hO X hF
def m_many_b8 : Nat → CS → Int32 → Int32 → Int32 → Int32 → Option (CS × Int32)
  | 0, _, _, _, _, _ => none
  | n + 1, st, x1, x2, x3, x4 => (if (x4 < 0) then (if (x2 = 0) then (some (st, (1 : Int32))) else (if (((x1 >>> ((24 : Int32) &&& 31)) &&& (1 : Int32)) = (1 : Int32)) then (some (m_many_b58 st x1 x2 x3 (1 : Int32))) else (some (m_many_b58 st x1 x2 x3 (0 : Int32))))) else (if (((x1 >>> (x4 &&& 31)) &&& (1 : Int32)) = 0) then (m_many_b31 (m_many_b8 n) st x1 x2 x3 x4) else (m_many_b31 (m_many_b8 n) st x1 (x2 + (1 : Int32)) x4 x4)))
def o_m_many_b8 : Nat → CS → Int32 → Int32 → Int32 → Int32 → Prop
  | 0, _, _, _, _, _ => True
  | n + 1, st, x1, x2, x3, x4 => (((x4 < 0) → (((x2 = 0) → True) ∧ (¬ (x2 = 0) → (((((x1 >>> ((24 : Int32) &&& 31)) &&& (1 : Int32)) = (1 : Int32)) → (o_m_many_b58 st x1 x2 x3 (1 : Int32))) ∧ (¬ (((x1 >>> ((24 : Int32) &&& 31)) &&& (1 : Int32)) = (1 : Int32)) → (o_m_many_b58 st x1 x2 x3 (0 : Int32))))))) ∧ (¬ (x4 < 0) → (((((x1 >>> (x4 &&& 31)) &&& (1 : Int32)) = 0) → (o_m_many_b31 (o_m_many_b8 n) st x1 x2 x3 x4)) ∧ (¬ (((x1 >>> (x4 &&& 31)) &&& (1 : Int32)) = 0) → (o_m_many_b31 (o_m_many_b8 n) st x1 (x2 + (1 : Int32)) x4 x4)))))
set_option maxHeartbeats 4000000 in
set_option maxRecDepth 100000 in
theorem k_m_many_b8 {p : Program} {l : Launch} {e : Env} {s : State} {m : MethodId} {args : Array Value} {below : List Frame} {meth : Method} {c : Code} {A : Nat → Prop} (g : Gm) (C : cX p s m args meth c A cX11_many (some .int) 21 RX11 wq_X11_many (gD g) vwCl (mty g) (mz g)) : ∀ (n : Nat) (st : CS) (x1 : Int32) (x2 : Int32) (x3 : Int32) (x4 : Int32) (H : Heap) (locs : List Loc) (ls : Array Slot), cI (gD g) vwCl (mw g) A s st H locs → lv_has ls 21 [(0, .ref (gad g 0)), (1, .int x1), (2, .int x2), (3, .int x3), (4, .int x4)] → o_m_many_b8 n st x1 x2 x3 x4 → ∀ (X : CS × Int32), some X = m_many_b8 n st x1 x2 x3 x4 → W p l e rm_m_many s m args below meth c H locs 0 0 (MQ below (cQi (gD g) vwCl (mty g) (mw g) A X.1 X.2) args s 0 0 A) (F0 m 8 ls []) := by
  obtain ⟨hx, hb, hr, hml, hown, hts, hlocks, hK, hA, hZ, hzo⟩ := id C
  intro n
  induction n with
  | zero => intro st x1 x2 x3 x4 H locs ls hI hl hO X hF; exact absurd hF (by simp [m_many_b8])
  | succ n ih =>
    intro st x1 x2 x3 x4 H locs ls hI hl hO X hF
    rw [m_many_b8] at hF
    rw [o_m_many_b8] at hO
    refine lv_iload hx hb dX11_many_8 (lv_at hl 4 rfl) ?_
    refine lv_if_lt (tgt := 37) hx hb dX11_many_10 (by decide) (fun c_10 => ?_) (fun c_10 => ?_)
    · have hF := hF.trans (if_pos c_10)
      have hO := hO.1 c_10
      refine lv_iload_n hx hb dX11_many_37 rfl (lv_at hl 2 rfl) ?_
      refine lv_if_ne (tgt := 43) hx hb dX11_many_38 (by decide) (fun c_38 => ?_) (fun c_38 => ?_)
      · have hF := hF.trans (if_neg c_38)
        have hO := hO.2 c_38
        refine lv_iload_n hx hb dX11_many_43 rfl (lv_at hl 1 rfl) ?_
        refine lv_bipush (v := (24 : Int32)) hx hb dX11_many_44 (by decide) ?_
        refine lv_ishr hx hb dX11_many_46 ?_
        refine lv_iconst (v := (1 : Int32)) hx hb dX11_many_47 (by decide) ?_
        refine lv_iand hx hb dX11_many_48 ?_
        refine lv_iconst (v := (1 : Int32)) hx hb dX11_many_49 (by decide) ?_
        refine lv_icmp_ne (tgt := 57) hx hb dX11_many_50 (by decide) (fun c_50 => ?_) (fun c_50 => ?_)
        · have hF := hF.trans (if_neg c_50)
          have hO := hO.2 c_50
          refine lv_iconst (v := (0 : Int32)) hx hb dX11_many_57 (by decide) ?_
          have hF := Option.some.inj hF
          exact k_m_many_b58 g C st x1 x2 x3 (0 : Int32) H locs ls hI (lv_sub hl [0, 1, 2, 3] rfl) hO X hF
        · have hF := hF.trans (if_pos c_50)
          have hO := hO.1 c_50
          refine lv_iconst (v := (1 : Int32)) hx hb dX11_many_53 (by decide) ?_
          refine lv_goto (tgt := 58) hx hb dX11_many_54 (by decide) ?_
          have hF := Option.some.inj hF
          exact k_m_many_b58 g C st x1 x2 x3 (1 : Int32) H locs ls hI (lv_sub hl [0, 1, 2, 3] rfl) hO X hF
      · have hF := hF.trans (if_pos c_38)
        have hO := hO.1 c_38
        refine lv_iconst (v := (1 : Int32)) hx hb dX11_many_41 (by decide) ?_
        have hF := Option.some.inj hF
        exact cx_iret C hI (congrArg Prod.fst hF) (congrArg Prod.snd hF) dX11_many_42
    · have hF := hF.trans (if_neg c_10)
      have hO := hO.2 c_10
      refine lv_iload_n hx hb dX11_many_13 rfl (lv_at hl 1 rfl) ?_
      refine lv_iload hx hb dX11_many_14 (lv_at hl 4 rfl) ?_
      refine lv_ishr hx hb dX11_many_16 ?_
      refine lv_iconst (v := (1 : Int32)) hx hb dX11_many_17 (by decide) ?_
      refine lv_iand hx hb dX11_many_18 ?_
      refine lv_if_ne (tgt := 25) hx hb dX11_many_19 (by decide) (fun c_19 => ?_) (fun c_19 => ?_)
      · have hF := hF.trans (if_neg c_19)
        have hO := hO.2 c_19
        refine lv_iinc (v := (x2 + (1 : Int32))) (lv' := [(2, .int (x2 + (1 : Int32))), (0, .ref (gad g 0)), (1, .int x1), (3, .int x3), (4, .int x4)]) hx hb dX11_many_25 hl (k := 2) rfl rfl (by decide) rfl (fun ls hl => ?_)
        refine lv_iload hx hb dX11_many_28 (lv_at hl 4 rfl) ?_
        refine lv_istore_n (lv' := [(3, .int x4), (2, .int (x2 + (1 : Int32))), (0, .ref (gad g 0)), (1, .int x1), (4, .int x4)]) hx hb dX11_many_30 rfl hl (by decide) rfl (fun ls hl => ?_)
        exact k_m_many_b31 g C (m_many_b8 n) (o_m_many_b8 n) ih st x1 (x2 + (1 : Int32)) x4 x4 H locs ls hI (lv_sub hl [2, 3, 1, 0, 4] rfl) hO X hF
      · have hF := hF.trans (if_pos c_19)
        have hO := hO.1 c_19
        refine lv_goto (tgt := 31) hx hb dX11_many_22 (by decide) ?_
        exact k_m_many_b31 g C (m_many_b8 n) (o_m_many_b8 n) ih st x1 x2 x3 x4 H locs ls hI (lv_sub hl [0, 1, 2, 3, 4] rfl) hO X hF
def m_many_b8t (st : CS) (x1 : Int32) (x2 : Int32) (x3 : Int32) (x4 : Int32) : CS × Int32 := (m_many_b8 (17) st x1 x2 x3 x4).getD (st, 0)
def o_m_many_b8t (st : CS) (x1 : Int32) (x2 : Int32) (x3 : Int32) (x4 : Int32) : Prop := o_m_many_b8 (17) st x1 x2 x3 x4 ∧ ∃ r, m_many_b8 (17) st x1 x2 x3 x4 = some r
set_option maxHeartbeats 4000000 in
set_option maxRecDepth 100000 in
theorem k_m_many_b8t {p : Program} {l : Launch} {e : Env} {s : State} {m : MethodId} {args : Array Value} {below : List Frame} {meth : Method} {c : Code} {A : Nat → Prop} (g : Gm) (C : cX p s m args meth c A cX11_many (some .int) 21 RX11 wq_X11_many (gD g) vwCl (mty g) (mz g)) (st : CS) (x1 : Int32) (x2 : Int32) (x3 : Int32) (x4 : Int32) (H : Heap) (locs : List Loc) (ls : Array Slot) (hI : cI (gD g) vwCl (mw g) A s st H locs) (hl : lv_has ls 21 [(0, .ref (gad g 0)), (1, .int x1), (2, .int x2), (3, .int x3), (4, .int x4)]) (hO : o_m_many_b8t st x1 x2 x3 x4) (X : CS × Int32) (hF : X = m_many_b8t st x1 x2 x3 x4) : W p l e rm_m_many s m args below meth c H locs 0 0 (MQ below (cQi (gD g) vwCl (mty g) (mw g) A X.1 X.2) args s 0 0 A) (F0 m 8 ls []) := by
  refine k_m_many_b8 g C (17) st x1 x2 x3 x4 H locs ls hI hl hO.1 X ?_
  rw [hF]
  exact some_getD hO.2
def m_many (st : CS) (x1 : Int32) : CS × Int32 := (m_many_b8t st x1 (0 : Int32) (-1 : Int32) (15 : Int32))
def o_m_many (st : CS) (x1 : Int32) : Prop := (o_m_many_b8t st x1 (0 : Int32) (-1 : Int32) (15 : Int32))
set_option maxHeartbeats 4000000 in
set_option maxRecDepth 100000 in
theorem k_m_many {p : Program} {l : Launch} {e : Env} {s : State} {m : MethodId} {args : Array Value} {below : List Frame} {meth : Method} {c : Code} {A : Nat → Prop} (g : Gm) (C : cX p s m args meth c A cX11_many (some .int) 21 RX11 wq_X11_many (gD g) vwCl (mty g) (mz g)) (st : CS) (x1 : Int32) (H : Heap) (locs : List Loc) (ls : Array Slot) (hI : cI (gD g) vwCl (mw g) A s st H locs) (hl : lv_has ls 21 [(0, .ref (gad g 0)), (1, .int x1)]) (hO : o_m_many st x1) (X : CS × Int32) (hF : X = m_many st x1) : W p l e rm_m_many s m args below meth c H locs 0 0 (MQ below (cQi (gD g) vwCl (mty g) (mw g) A X.1 X.2) args s 0 0 A) (F0 m 0 ls []) := by
  obtain ⟨hx, hb, hr, hml, hown, hts, hlocks, hK, hA, hZ, hzo⟩ := id C
  unfold m_many at hF
  unfold o_m_many at hO
  refine lv_iconst (v := (0 : Int32)) hx hb dX11_many_0 (by decide) ?_
  refine lv_istore_n (lv' := [(2, .int (0 : Int32)), (0, .ref (gad g 0)), (1, .int x1)]) hx hb dX11_many_1 rfl hl (by decide) rfl (fun ls hl => ?_)
  refine lv_iconst (v := (-1 : Int32)) hx hb dX11_many_2 (by decide) ?_
  refine lv_istore_n (lv' := [(3, .int (-1 : Int32)), (2, .int (0 : Int32)), (0, .ref (gad g 0)), (1, .int x1)]) hx hb dX11_many_3 rfl hl (by decide) rfl (fun ls hl => ?_)
  refine lv_bipush (v := (15 : Int32)) hx hb dX11_many_4 (by decide) ?_
  refine lv_istore (lv' := [(4, .int (15 : Int32)), (3, .int (-1 : Int32)), (2, .int (0 : Int32)), (0, .ref (gad g 0)), (1, .int x1)]) hx hb dX11_many_6 hl (by decide) rfl (fun ls hl => ?_)
  exact k_m_many_b8t g C st x1 (0 : Int32) (-1 : Int32) (15 : Int32) H locs ls hI (lv_sub hl [3, 4, 2, 1, 0] rfl) hO X hF
set_option maxHeartbeats 4000000 in
set_option maxRecDepth 100000 in
theorem c_m_many (l : Launch) (g : Gm) (st : CS) (x1 : Int32) (hO : o_m_many st x1) : Mi l yX11_many wq_X11_many rm_m_many (gD g) vwCl (mty g) (mw g) (mz g) [.ref (gad g 0), .int x1] st (m_many st x1).1 (m_many st x1).2 := by
  intro sz
  refine Met.ofW (cc := cX11_many) (maxL := 21) (ret := (some .int)) (by decide) rfl ?_
  intro p e s m args below meth c s₁ B hml hv
  obtain ⟨rfl, hsz, hP, hK, hD0, hZ⟩ := hv
  subst hsz
  have hl := lv_entry ([.ref (gad g 0), .int x1]) (n := 21) (Nat.le_of_ble_eq_true rfl)
  rw [lg_entry_eq]
  generalize (lg_sl ([.ref (gad g 0), .int x1]) ++ List.replicate (21 - (lg_sl ([.ref (gad g 0), .int x1])).length) Slot.unset).toArray = ls at hl ⊢
  exact k_m_many g ⟨B.exec, B.bytes, B.returns, hml, findClass_of_methodNamed B.named, atoms_spec (ws := wq_X11_many) B.pre, B.notSynchronized, hK, fun q h => Or.inr h, hZ, mz_ok g⟩ st x1 _ _ ls ⟨hP, hD0.self, va_S.rf⟩ hl hO _ rfl
abbrev wq_X11_branch : List Cond := .code yX11_branch cX11_branch 2 (some .int) :: wAll
theorem yd_yX11_branch : yX11_branch.cls = RX11 ∧ yX11_branch.cls ≠ "java/lang/invoke/MethodHandle" ∧ yX11_branch.cls ≠ "java/lang/invoke/VarHandle" ∧ (parseMethodDescriptor yX11_branch.desc).map (fun d => d.parameters.length) = some 1 := by decide +kernel
abbrev rm_m_branch : Room := { frames := 2, cells := 0, slots := 0, locals := 44 }
def m_branch_b33 (st : CS) (x1 : Int32) : CS × Int32 := ((sI st 3 (m_ahead st ((8 : Int32) + ((x1 <<< ((8 : Int32) &&& 31)) >>> ((6 : Int32) &&& 31))))), (4 : Int32))
set_option maxHeartbeats 4000000 in
set_option maxRecDepth 100000 in
theorem k_m_branch_b33 {p : Program} {l : Launch} {e : Env} {s : State} {m : MethodId} {args : Array Value} {below : List Frame} {meth : Method} {c : Code} {A : Nat → Prop} (g : Gm) (C : cX p s m args meth c A cX11_branch (some .int) 2 RX11 wq_X11_branch (gD g) vwCl (mty g) (mz g)) (st : CS) (x1 : Int32) (H : Heap) (locs : List Loc) (ls : Array Slot) (hI : cI (gD g) vwCl (mw g) A s st H locs) (hl : lv_has ls 2 [(0, .ref (gad g 0)), (1, .int x1)]) (X : CS × Int32) (hF : X = m_branch_b33 st x1) : W p l e rm_m_branch s m args below meth c H locs 0 0 (MQ below (cQi (gD g) vwCl (mty g) (mw g) A X.1 X.2) args s 0 0 A) (F0 m 33 ls []) := by
  obtain ⟨hx, hb, hr, hml, hown, hts, hlocks, hK, hA, hZ, hzo⟩ := id C
  unfold m_branch_b33 at hF
  refine lv_aload_n hx hb dX11_branch_33 rfl (lv_at hl 0 rfl) ?_
  refine lv_aload_n hx hb dX11_branch_34 rfl (lv_at hl 0 rfl) ?_
  refine lv_bipush (v := (8 : Int32)) hx hb dX11_branch_35 (by decide) ?_
  refine lv_iload_n hx hb dX11_branch_37 rfl (lv_at hl 1 rfl) ?_
  refine lv_bipush (v := (8 : Int32)) hx hb dX11_branch_38 (by decide) ?_
  refine lv_ishl hx hb dX11_branch_40 ?_
  refine lv_bipush (v := (6 : Int32)) hx hb dX11_branch_41 (by decide) ?_
  refine lv_ishr hx hb dX11_branch_43 ?_
  refine lv_iadd hx hb dX11_branch_44 ?_
  refine cx_Vi (As := [.int ((8 : Int32) + ((x1 <<< ((8 : Int32) &&& 31)) >>> ((6 : Int32) &&& 31)))]) (rest := [.ref (gad g 0)]) C (c_m_ahead l g st ((8 : Int32) + ((x1 <<< ((8 : Int32) &&& 31)) >>> ((6 : Int32) &&& 31)))) (cwV 1 hts (gd_V _ mw769 mw770 mw771 mw3 mw772) rfl rfl rfl yd_yX11_ahead ⟨Nat.le_of_ble_eq_true rfl, Nat.le_of_ble_eq_true rfl⟩) (va_recv hK hI.1 (ci := 11) (q0 := 0) rfl rfl) hI rfl hl.1 rfl (Nat.le_of_ble_eq_true rfl) dX11_branch_45 (fun H locs hI => ?_)
  refine va_put (D := gD g) (ci := 11) (C := RX11) (T := TX11) (N := 50) (v := .int (m_ahead st ((8 : Int32) + ((x1 <<< ((8 : Int32) &&& 31)) >>> ((6 : Int32) &&& 31))))) (ty := .int) hx hb hts (fun w h => List.mem_cons_of_mem _ (isX110 w h)) tyX11 tyX11_ok nmX11 hown hK hI.1 hI.2.1 hI.2.2 0 rfl rfl 7 (by decide) (hts _ (List.mem_cons_of_mem _ mw750)) (fun _ h9 => h9) rfl (by decide +kernel) rfl rfl (Nat.le_of_ble_eq_true rfl) dX11_branch_48 (fun H locs hP hD hS => ?_)
  have hI : cI (gD g) vwCl (mw g) A s (sI st 3 (m_ahead st ((8 : Int32) + ((x1 <<< ((8 : Int32) &&& 31)) >>> ((6 : Int32) &&& 31))))) H locs := ⟨hP, hD, hS⟩
  refine lv_iconst (v := (4 : Int32)) hx hb dX11_branch_51 (by decide) ?_
  exact cx_iret C hI (congrArg Prod.fst hF) (congrArg Prod.snd hF) dX11_branch_52
def m_branch (st : CS) (x1 : Int32) : CS × Int32 := (if (((x1 >>> ((24 : Int32) &&& 31)) &&& (1 : Int32)) = (1 : Int32)) then (m_branch_b33 (m_give st (m_mode st) (14 : Int32) (((gI st 1) &&& (-67108861 : Int32)) ||| (m_ahead st (4 : Int32)))) x1) else (m_branch_b33 st x1))
def o_m_branch (st : CS) (x1 : Int32) : Prop := (((((x1 >>> ((24 : Int32) &&& 31)) &&& (1 : Int32)) = (1 : Int32)) → ((o_m_give st (m_mode st) (14 : Int32) (((gI st 1) &&& (-67108861 : Int32)) ||| (m_ahead st (4 : Int32)))) ∧ True)) ∧ (¬ (((x1 >>> ((24 : Int32) &&& 31)) &&& (1 : Int32)) = (1 : Int32)) → True))
set_option maxHeartbeats 4000000 in
set_option maxRecDepth 100000 in
theorem k_m_branch {p : Program} {l : Launch} {e : Env} {s : State} {m : MethodId} {args : Array Value} {below : List Frame} {meth : Method} {c : Code} {A : Nat → Prop} (g : Gm) (C : cX p s m args meth c A cX11_branch (some .int) 2 RX11 wq_X11_branch (gD g) vwCl (mty g) (mz g)) (st : CS) (x1 : Int32) (H : Heap) (locs : List Loc) (ls : Array Slot) (hI : cI (gD g) vwCl (mw g) A s st H locs) (hl : lv_has ls 2 [(0, .ref (gad g 0)), (1, .int x1)]) (hO : o_m_branch st x1) (X : CS × Int32) (hF : X = m_branch st x1) : W p l e rm_m_branch s m args below meth c H locs 0 0 (MQ below (cQi (gD g) vwCl (mty g) (mw g) A X.1 X.2) args s 0 0 A) (F0 m 0 ls []) := by
  obtain ⟨hx, hb, hr, hml, hown, hts, hlocks, hK, hA, hZ, hzo⟩ := id C
  unfold m_branch at hF
  unfold o_m_branch at hO
  refine lv_iload_n hx hb dX11_branch_0 rfl (lv_at hl 1 rfl) ?_
  refine lv_bipush (v := (24 : Int32)) hx hb dX11_branch_1 (by decide) ?_
  refine lv_ishr hx hb dX11_branch_3 ?_
  refine lv_iconst (v := (1 : Int32)) hx hb dX11_branch_4 (by decide) ?_
  refine lv_iand hx hb dX11_branch_5 ?_
  refine lv_iconst (v := (1 : Int32)) hx hb dX11_branch_6 (by decide) ?_
  refine lv_icmp_ne (tgt := 33) hx hb dX11_branch_7 (by decide) (fun c_7 => ?_) (fun c_7 => ?_)
  · have hF := hF.trans (if_neg c_7)
    have hO := hO.2 c_7
    exact k_m_branch_b33 g C st x1 H locs ls hI (lv_sub hl [0, 1] rfl) X hF
  · have hF := hF.trans (if_pos c_7)
    have hO := hO.1 c_7
    refine lv_aload_n hx hb dX11_branch_10 rfl (lv_at hl 0 rfl) ?_
    refine lv_aload_n hx hb dX11_branch_11 rfl (lv_at hl 0 rfl) ?_
    refine cx_Vi (As := []) (rest := [.ref (gad g 0)]) C (c_m_mode l g st ) (cwV 0 hts (gd_V _ mw796 mw797 mw798 mw3 mw799) rfl rfl rfl yd_yX11_mode ⟨Nat.le_of_ble_eq_true rfl, Nat.le_of_ble_eq_true rfl⟩) (va_recv hK hI.1 (ci := 11) (q0 := 0) rfl rfl) hI rfl hl.1 rfl (Nat.le_of_ble_eq_true rfl) dX11_branch_12 (fun H locs hI => ?_)
    refine lv_bipush (v := (14 : Int32)) hx hb dX11_branch_15 (by decide) ?_
    refine lv_aload_n hx hb dX11_branch_17 rfl (lv_at hl 0 rfl) ?_
    refine va_get (D := gD g) (ci := 11) (C := RX11) (T := TX11) (N := 50) (v := .int (gI st 1)) hx hb hts (fun w h => List.mem_cons_of_mem _ (isX110 w h)) hown hK hI.1 0 rfl rfl 5 (by decide) (hts _ (List.mem_cons_of_mem _ mw210)) (fun _ h9 => h9) rfl dX11_branch_18 ?_
    refine lv_ldc (v := (-67108861 : Int32)) hx hb hown (hts _ (List.mem_cons_of_mem _ mw752)) dX11_branch_21 ?_
    refine lv_iand hx hb dX11_branch_23 ?_
    refine lv_aload_n hx hb dX11_branch_24 rfl (lv_at hl 0 rfl) ?_
    refine lv_iconst (v := (4 : Int32)) hx hb dX11_branch_25 (by decide) ?_
    refine cx_Vi (As := [.int (4 : Int32)]) (rest := [.int ((gI st 1) &&& (-67108861 : Int32)), .int (14 : Int32), .int (m_mode st), .ref (gad g 0)]) C (c_m_ahead l g st (4 : Int32)) (cwV 1 hts (gd_V _ mw769 mw770 mw771 mw3 mw772) rfl rfl rfl yd_yX11_ahead ⟨Nat.le_of_ble_eq_true rfl, Nat.le_of_ble_eq_true rfl⟩) (va_recv hK hI.1 (ci := 11) (q0 := 0) rfl rfl) hI rfl hl.1 rfl (Nat.le_of_ble_eq_true rfl) dX11_branch_26 (fun H locs hI => ?_)
    refine lv_ior hx hb dX11_branch_29 ?_
    have hq_30_0 := hO.1
    have hO := hO.2
    refine cx_Vv (As := [.int (m_mode st), .int (14 : Int32), .int (((gI st 1) &&& (-67108861 : Int32)) ||| (m_ahead st (4 : Int32)))]) (rest := []) C (c_m_give l g st (m_mode st) (14 : Int32) (((gI st 1) &&& (-67108861 : Int32)) ||| (m_ahead st (4 : Int32))) hq_30_0) (cwV 3 hts (gd_V _ mw777 mw778 mw779 mw3 mw780) rfl rfl rfl yd_yX11_give ⟨Nat.le_of_ble_eq_true rfl, Nat.le_of_ble_eq_true rfl⟩) (va_recv hK hI.1 (ci := 11) (q0 := 0) rfl rfl) hI rfl hl.1 rfl (Nat.le_of_ble_eq_true rfl) dX11_branch_30 (fun H locs hI => ?_)
    exact k_m_branch_b33 g C (m_give st (m_mode st) (14 : Int32) (((gI st 1) &&& (-67108861 : Int32)) ||| (m_ahead st (4 : Int32)))) x1 H locs ls hI (lv_sub hl [0, 1] rfl) X hF
set_option maxHeartbeats 4000000 in
set_option maxRecDepth 100000 in
theorem c_m_branch (l : Launch) (g : Gm) (st : CS) (x1 : Int32) (hO : o_m_branch st x1) : Mi l yX11_branch wq_X11_branch rm_m_branch (gD g) vwCl (mty g) (mw g) (mz g) [.ref (gad g 0), .int x1] st (m_branch st x1).1 (m_branch st x1).2 := by
  intro sz
  refine Met.ofW (cc := cX11_branch) (maxL := 2) (ret := (some .int)) (by decide) rfl ?_
  intro p e s m args below meth c s₁ B hml hv
  obtain ⟨rfl, hsz, hP, hK, hD0, hZ⟩ := hv
  subst hsz
  have hl := lv_entry ([.ref (gad g 0), .int x1]) (n := 2) (Nat.le_of_ble_eq_true rfl)
  rw [lg_entry_eq]
  generalize (lg_sl ([.ref (gad g 0), .int x1]) ++ List.replicate (2 - (lg_sl ([.ref (gad g 0), .int x1])).length) Slot.unset).toArray = ls at hl ⊢
  exact k_m_branch g ⟨B.exec, B.bytes, B.returns, hml, findClass_of_methodNamed B.named, atoms_spec (ws := wq_X11_branch) B.pre, B.notSynchronized, hK, fun q h => Or.inr h, hZ, mz_ok g⟩ st x1 _ _ ls ⟨hP, hD0.self, va_S.rf⟩ hl hO _ rfl
abbrev wq_X11_perform : List Cond := .code yX11_perform cX11_perform 2 (some .int) :: wAll
theorem yd_yX11_perform : yX11_perform.cls = RX11 ∧ yX11_perform.cls ≠ "java/lang/invoke/MethodHandle" ∧ yX11_perform.cls ≠ "java/lang/invoke/VarHandle" ∧ (parseMethodDescriptor yX11_perform.desc).map (fun d => d.parameters.length) = some 1 := by decide +kernel
abbrev rm_m_perform : Room := { frames := 5, cells := 0, slots := 0, locals := 125 }
def m_perform_b90 (st : CS) (y0 : Int32) : CS × Int32 := (st, y0)
set_option maxHeartbeats 4000000 in
set_option maxRecDepth 100000 in
theorem k_m_perform_b90 {p : Program} {l : Launch} {e : Env} {s : State} {m : MethodId} {args : Array Value} {below : List Frame} {meth : Method} {c : Code} {A : Nat → Prop} (g : Gm) (C : cX p s m args meth c A cX11_perform (some .int) 2 RX11 wq_X11_perform (gD g) vwCl (mty g) (mz g)) (st : CS) (y0 : Int32) (H : Heap) (locs : List Loc) (ls : Array Slot) (hI : cI (gD g) vwCl (mw g) A s st H locs) (hl : lv_has ls 2 [(0, .ref (gad g 0))]) (X : CS × Int32) (hF : X = m_perform_b90 st y0) : W p l e rm_m_perform s m args below meth c H locs 0 0 (MQ below (cQi (gD g) vwCl (mty g) (mw g) A X.1 X.2) args s 0 0 A) (F0 m 90 ls [.int y0]) := by
  obtain ⟨hx, hb, hr, hml, hown, hts, hlocks, hK, hA, hZ, hzo⟩ := id C
  unfold m_perform_b90 at hF
  refine lv_goto (tgt := 98) hx hb dX11_perform_90 (by decide) ?_
  exact cx_iret C hI (congrArg Prod.fst hF) (congrArg Prod.snd hF) dX11_perform_98
def m_perform_b75 (st : CS) (x1 : Int32) : CS × Int32 := (if (((x1 >>> ((4 : Int32) &&& 31)) &&& (9 : Int32)) = (9 : Int32)) then (m_perform_b90 (m_undefined st).1 (m_undefined st).2) else ((m_work st x1).1, (m_work st x1).2))
def o_m_perform_b75 (st : CS) (x1 : Int32) : Prop := (((((x1 >>> ((4 : Int32) &&& 31)) &&& (9 : Int32)) = (9 : Int32)) → ((o_m_undefined st) ∧ True)) ∧ (¬ (((x1 >>> ((4 : Int32) &&& 31)) &&& (9 : Int32)) = (9 : Int32)) → ((o_m_work st x1) ∧ True)))
set_option maxHeartbeats 4000000 in
set_option maxRecDepth 100000 in
theorem k_m_perform_b75 {p : Program} {l : Launch} {e : Env} {s : State} {m : MethodId} {args : Array Value} {below : List Frame} {meth : Method} {c : Code} {A : Nat → Prop} (g : Gm) (C : cX p s m args meth c A cX11_perform (some .int) 2 RX11 wq_X11_perform (gD g) vwCl (mty g) (mz g)) (st : CS) (x1 : Int32) (H : Heap) (locs : List Loc) (ls : Array Slot) (hI : cI (gD g) vwCl (mw g) A s st H locs) (hl : lv_has ls 2 [(0, .ref (gad g 0)), (1, .int x1)]) (hO : o_m_perform_b75 st x1) (X : CS × Int32) (hF : X = m_perform_b75 st x1) : W p l e rm_m_perform s m args below meth c H locs 0 0 (MQ below (cQi (gD g) vwCl (mty g) (mw g) A X.1 X.2) args s 0 0 A) (F0 m 75 ls []) := by
  obtain ⟨hx, hb, hr, hml, hown, hts, hlocks, hK, hA, hZ, hzo⟩ := id C
  unfold m_perform_b75 at hF
  unfold o_m_perform_b75 at hO
  refine lv_iload_n hx hb dX11_perform_75 rfl (lv_at hl 1 rfl) ?_
  refine lv_iconst (v := (4 : Int32)) hx hb dX11_perform_76 (by decide) ?_
  refine lv_ishr hx hb dX11_perform_77 ?_
  refine lv_bipush (v := (9 : Int32)) hx hb dX11_perform_78 (by decide) ?_
  refine lv_iand hx hb dX11_perform_80 ?_
  refine lv_bipush (v := (9 : Int32)) hx hb dX11_perform_81 (by decide) ?_
  refine lv_icmp_ne (tgt := 93) hx hb dX11_perform_83 (by decide) (fun c_83 => ?_) (fun c_83 => ?_)
  · have hF := hF.trans (if_neg c_83)
    have hO := hO.2 c_83
    refine lv_aload_n hx hb dX11_perform_93 rfl (lv_at hl 0 rfl) ?_
    refine lv_iload_n hx hb dX11_perform_94 rfl (lv_at hl 1 rfl) ?_
    have hq_95_0 := hO.1
    have hO := hO.2
    refine cx_Vi (As := [.int x1]) (rest := []) C (c_m_work l g st x1 hq_95_0) (cwV 1 hts (gd_V _ mw838 mw839 mw840 mw3 mw841) rfl rfl rfl yd_yX11_work ⟨Nat.le_of_ble_eq_true rfl, Nat.le_of_ble_eq_true rfl⟩) (va_recv hK hI.1 (ci := 11) (q0 := 0) rfl rfl) hI rfl hl.1 rfl (Nat.le_of_ble_eq_true rfl) dX11_perform_95 (fun H locs hI => ?_)
    exact cx_iret C hI (congrArg Prod.fst hF) (congrArg Prod.snd hF) dX11_perform_98
  · have hF := hF.trans (if_pos c_83)
    have hO := hO.1 c_83
    refine lv_aload_n hx hb dX11_perform_86 rfl (lv_at hl 0 rfl) ?_
    have hq_87_0 := hO.1
    have hO := hO.2
    refine cx_Vi (As := []) (rest := []) C (c_m_undefined l g st  hq_87_0) (cwV 0 hts (gd_V _ mw834 mw835 mw836 mw3 mw837) rfl rfl rfl yd_yX11_undefined ⟨Nat.le_of_ble_eq_true rfl, Nat.le_of_ble_eq_true rfl⟩) (va_recv hK hI.1 (ci := 11) (q0 := 0) rfl rfl) hI rfl hl.1 rfl (Nat.le_of_ble_eq_true rfl) dX11_perform_87 (fun H locs hI => ?_)
    exact k_m_perform_b90 g C (m_undefined st).1 (m_undefined st).2 H locs ls hI (lv_sub hl [0] rfl) X hF
def m_perform_b105 (st : CS) (x1 : Int32) : CS × Int32 := ((m_transfer st x1).1, (m_transfer st x1).2)
def o_m_perform_b105 (st : CS) (x1 : Int32) : Prop := ((o_m_transfer st x1) ∧ True)
set_option maxHeartbeats 4000000 in
set_option maxRecDepth 100000 in
theorem k_m_perform_b105 {p : Program} {l : Launch} {e : Env} {s : State} {m : MethodId} {args : Array Value} {below : List Frame} {meth : Method} {c : Code} {A : Nat → Prop} (g : Gm) (C : cX p s m args meth c A cX11_perform (some .int) 2 RX11 wq_X11_perform (gD g) vwCl (mty g) (mz g)) (st : CS) (x1 : Int32) (H : Heap) (locs : List Loc) (ls : Array Slot) (hI : cI (gD g) vwCl (mw g) A s st H locs) (hl : lv_has ls 2 [(0, .ref (gad g 0)), (1, .int x1)]) (hO : o_m_perform_b105 st x1) (X : CS × Int32) (hF : X = m_perform_b105 st x1) : W p l e rm_m_perform s m args below meth c H locs 0 0 (MQ below (cQi (gD g) vwCl (mty g) (mw g) A X.1 X.2) args s 0 0 A) (F0 m 105 ls []) := by
  obtain ⟨hx, hb, hr, hml, hown, hts, hlocks, hK, hA, hZ, hzo⟩ := id C
  unfold m_perform_b105 at hF
  unfold o_m_perform_b105 at hO
  refine lv_aload_n hx hb dX11_perform_105 rfl (lv_at hl 0 rfl) ?_
  refine lv_iload_n hx hb dX11_perform_106 rfl (lv_at hl 1 rfl) ?_
  have hq_107_0 := hO.1
  have hO := hO.2
  refine cx_Vi (As := [.int x1]) (rest := []) C (c_m_transfer l g st x1 hq_107_0) (cwV 1 hts (gd_V _ mw872 mw873 mw874 mw3 mw875) rfl rfl rfl yd_yX11_transfer ⟨Nat.le_of_ble_eq_true rfl, Nat.le_of_ble_eq_true rfl⟩) (va_recv hK hI.1 (ci := 11) (q0 := 0) rfl rfl) hI rfl hl.1 rfl (Nat.le_of_ble_eq_true rfl) dX11_perform_107 (fun H locs hI => ?_)
  exact cx_iret C hI (congrArg Prod.fst hF) (congrArg Prod.snd hF) dX11_perform_110
def m_perform_b147 (st : CS) (y0 : Int32) : CS × Int32 := (st, y0)
set_option maxHeartbeats 4000000 in
set_option maxRecDepth 100000 in
theorem k_m_perform_b147 {p : Program} {l : Launch} {e : Env} {s : State} {m : MethodId} {args : Array Value} {below : List Frame} {meth : Method} {c : Code} {A : Nat → Prop} (g : Gm) (C : cX p s m args meth c A cX11_perform (some .int) 2 RX11 wq_X11_perform (gD g) vwCl (mty g) (mz g)) (st : CS) (y0 : Int32) (H : Heap) (locs : List Loc) (ls : Array Slot) (hI : cI (gD g) vwCl (mw g) A s st H locs) (hl : lv_has ls 2 [(0, .ref (gad g 0))]) (X : CS × Int32) (hF : X = m_perform_b147 st y0) : W p l e rm_m_perform s m args below meth c H locs 0 0 (MQ below (cQi (gD g) vwCl (mty g) (mw g) A X.1 X.2) args s 0 0 A) (F0 m 147 ls [.int y0]) := by
  obtain ⟨hx, hb, hr, hml, hown, hts, hlocks, hK, hA, hZ, hzo⟩ := id C
  unfold m_perform_b147 at hF
  refine lv_goto (tgt := 154) hx hb dX11_perform_147 (by decide) ?_
  exact cx_iret C hI (congrArg Prod.fst hF) (congrArg Prod.snd hF) dX11_perform_154
def m_perform (st : CS) (x1 : Int32) : CS × Int32 := (if ((ushr x1 (25 : Int32)) &&& (7 : Int32)) = (0 : Int32) then (if (((x1 >>> ((22 : Int32) &&& 31)) &&& (7 : Int32)) = 0) then (if (((x1 >>> ((4 : Int32) &&& 31)) &&& (15 : Int32)) = (9 : Int32)) then ((m_multiply st x1).1, (m_multiply st x1).2) else (m_perform_b75 st x1)) else (m_perform_b75 st x1)) else (if ((ushr x1 (25 : Int32)) &&& (7 : Int32)) = (1 : Int32) then ((m_work st x1).1, (m_work st x1).2) else (if ((ushr x1 (25 : Int32)) &&& (7 : Int32)) = (2 : Int32) then (m_perform_b105 st x1) else (if ((ushr x1 (25 : Int32)) &&& (7 : Int32)) = (3 : Int32) then (m_perform_b105 st x1) else (if ((ushr x1 (25 : Int32)) &&& (7 : Int32)) = (4 : Int32) then ((m_many st x1).1, (m_many st x1).2) else (if ((ushr x1 (25 : Int32)) &&& (7 : Int32)) = (5 : Int32) then ((m_branch st x1).1, (m_branch st x1).2) else (if ((ushr x1 (25 : Int32)) &&& (7 : Int32)) = (6 : Int32) then ((m_undefined st).1, (m_undefined st).2) else (if (((x1 >>> ((24 : Int32) &&& 31)) &&& (1 : Int32)) = (1 : Int32)) then (m_perform_b147 (m_trap st (1 : Int32) (3 : Int32) (8 : Int32) (4 : Int32)).1 (m_trap st (1 : Int32) (3 : Int32) (8 : Int32) (4 : Int32)).2) else ((m_undefined st).1, (m_undefined st).2)))))))))
def o_m_perform (st : CS) (x1 : Int32) : Prop := ((((ushr x1 (25 : Int32)) &&& (7 : Int32)) = (0 : Int32) → (((((x1 >>> ((22 : Int32) &&& 31)) &&& (7 : Int32)) = 0) → (((((x1 >>> ((4 : Int32) &&& 31)) &&& (15 : Int32)) = (9 : Int32)) → ((o_m_multiply st x1) ∧ True)) ∧ (¬ (((x1 >>> ((4 : Int32) &&& 31)) &&& (15 : Int32)) = (9 : Int32)) → (o_m_perform_b75 st x1)))) ∧ (¬ (((x1 >>> ((22 : Int32) &&& 31)) &&& (7 : Int32)) = 0) → (o_m_perform_b75 st x1)))) ∧ (¬ ((ushr x1 (25 : Int32)) &&& (7 : Int32)) = (0 : Int32) → ((((ushr x1 (25 : Int32)) &&& (7 : Int32)) = (1 : Int32) → ((o_m_work st x1) ∧ True)) ∧ (¬ ((ushr x1 (25 : Int32)) &&& (7 : Int32)) = (1 : Int32) → ((((ushr x1 (25 : Int32)) &&& (7 : Int32)) = (2 : Int32) → (o_m_perform_b105 st x1)) ∧ (¬ ((ushr x1 (25 : Int32)) &&& (7 : Int32)) = (2 : Int32) → ((((ushr x1 (25 : Int32)) &&& (7 : Int32)) = (3 : Int32) → (o_m_perform_b105 st x1)) ∧ (¬ ((ushr x1 (25 : Int32)) &&& (7 : Int32)) = (3 : Int32) → ((((ushr x1 (25 : Int32)) &&& (7 : Int32)) = (4 : Int32) → ((o_m_many st x1) ∧ True)) ∧ (¬ ((ushr x1 (25 : Int32)) &&& (7 : Int32)) = (4 : Int32) → ((((ushr x1 (25 : Int32)) &&& (7 : Int32)) = (5 : Int32) → ((o_m_branch st x1) ∧ True)) ∧ (¬ ((ushr x1 (25 : Int32)) &&& (7 : Int32)) = (5 : Int32) → ((((ushr x1 (25 : Int32)) &&& (7 : Int32)) = (6 : Int32) → ((o_m_undefined st) ∧ True)) ∧ (¬ ((ushr x1 (25 : Int32)) &&& (7 : Int32)) = (6 : Int32) → (((((x1 >>> ((24 : Int32) &&& 31)) &&& (1 : Int32)) = (1 : Int32)) → ((o_m_trap st (1 : Int32) (3 : Int32) (8 : Int32) (4 : Int32)) ∧ True)) ∧ (¬ (((x1 >>> ((24 : Int32) &&& 31)) &&& (1 : Int32)) = (1 : Int32)) → ((o_m_undefined st) ∧ True)))))))))))))))))
set_option maxHeartbeats 4000000 in
set_option maxRecDepth 100000 in
theorem k_m_perform {p : Program} {l : Launch} {e : Env} {s : State} {m : MethodId} {args : Array Value} {below : List Frame} {meth : Method} {c : Code} {A : Nat → Prop} (g : Gm) (C : cX p s m args meth c A cX11_perform (some .int) 2 RX11 wq_X11_perform (gD g) vwCl (mty g) (mz g)) (st : CS) (x1 : Int32) (H : Heap) (locs : List Loc) (ls : Array Slot) (hI : cI (gD g) vwCl (mw g) A s st H locs) (hl : lv_has ls 2 [(0, .ref (gad g 0)), (1, .int x1)]) (hO : o_m_perform st x1) (X : CS × Int32) (hF : X = m_perform st x1) : W p l e rm_m_perform s m args below meth c H locs 0 0 (MQ below (cQi (gD g) vwCl (mty g) (mw g) A X.1 X.2) args s 0 0 A) (F0 m 0 ls []) := by
  obtain ⟨hx, hb, hr, hml, hown, hts, hlocks, hK, hA, hZ, hzo⟩ := id C
  unfold m_perform at hF
  unfold o_m_perform at hO
  refine lv_iload_n hx hb dX11_perform_0 rfl (lv_at hl 1 rfl) ?_
  refine lv_bipush (v := (25 : Int32)) hx hb dX11_perform_1 (by decide) ?_
  refine lv_iushr (v := (ushr x1 (25 : Int32))) hx hb dX11_perform_3 rfl ?_
  refine lv_bipush (v := (7 : Int32)) hx hb dX11_perform_4 (by decide) ?_
  refine lv_iand hx hb dX11_perform_6 ?_
  by_cases c_7_0 : ((ushr x1 (25 : Int32)) &&& (7 : Int32)) = (0 : Int32)
  · have hF := hF.trans (if_pos c_7_0)
    have hO := hO.1 c_7_0
    refine lv_tableIn (off := 41) (tgt := 48) hx hb dX11_perform_7 (by rw [c_7_0]; decide) (by rw [c_7_0]; decide) (by rw [c_7_0]; rfl) (by decide) ?_
    refine lv_iload_n hx hb dX11_perform_48 rfl (lv_at hl 1 rfl) ?_
    refine lv_bipush (v := (22 : Int32)) hx hb dX11_perform_49 (by decide) ?_
    refine lv_ishr hx hb dX11_perform_51 ?_
    refine lv_bipush (v := (7 : Int32)) hx hb dX11_perform_52 (by decide) ?_
    refine lv_iand hx hb dX11_perform_54 ?_
    refine lv_if_ne (tgt := 75) hx hb dX11_perform_55 (by decide) (fun c_55 => ?_) (fun c_55 => ?_)
    · have hF := hF.trans (if_neg c_55)
      have hO := hO.2 c_55
      exact k_m_perform_b75 g C st x1 H locs ls hI (lv_sub hl [0, 1] rfl) hO X hF
    · have hF := hF.trans (if_pos c_55)
      have hO := hO.1 c_55
      refine lv_iload_n hx hb dX11_perform_58 rfl (lv_at hl 1 rfl) ?_
      refine lv_iconst (v := (4 : Int32)) hx hb dX11_perform_59 (by decide) ?_
      refine lv_ishr hx hb dX11_perform_60 ?_
      refine lv_bipush (v := (15 : Int32)) hx hb dX11_perform_61 (by decide) ?_
      refine lv_iand hx hb dX11_perform_63 ?_
      refine lv_bipush (v := (9 : Int32)) hx hb dX11_perform_64 (by decide) ?_
      refine lv_icmp_ne (tgt := 75) hx hb dX11_perform_66 (by decide) (fun c_66 => ?_) (fun c_66 => ?_)
      · have hF := hF.trans (if_neg c_66)
        have hO := hO.2 c_66
        exact k_m_perform_b75 g C st x1 H locs ls hI (lv_sub hl [0, 1] rfl) hO X hF
      · have hF := hF.trans (if_pos c_66)
        have hO := hO.1 c_66
        refine lv_aload_n hx hb dX11_perform_69 rfl (lv_at hl 0 rfl) ?_
        refine lv_iload_n hx hb dX11_perform_70 rfl (lv_at hl 1 rfl) ?_
        have hq_71_0 := hO.1
        have hO := hO.2
        refine cx_Vi (As := [.int x1]) (rest := []) C (c_m_multiply l g st x1 hq_71_0) (cwV 1 hts (gd_V _ mw822 mw823 mw824 mw3 mw825) rfl rfl rfl yd_yX11_multiply ⟨Nat.le_of_ble_eq_true rfl, Nat.le_of_ble_eq_true rfl⟩) (va_recv hK hI.1 (ci := 11) (q0 := 0) rfl rfl) hI rfl hl.1 rfl (Nat.le_of_ble_eq_true rfl) dX11_perform_71 (fun H locs hI => ?_)
        exact cx_iret C hI (congrArg Prod.fst hF) (congrArg Prod.snd hF) dX11_perform_74
  · have hF := hF.trans (if_neg c_7_0)
    have hO := hO.2 c_7_0
    by_cases c_7_1 : ((ushr x1 (25 : Int32)) &&& (7 : Int32)) = (1 : Int32)
    · have hF := hF.trans (if_pos c_7_1)
      have hO := hO.1 c_7_1
      refine lv_tableIn (off := 92) (tgt := 99) hx hb dX11_perform_7 (by rw [c_7_1]; decide) (by rw [c_7_1]; decide) (by rw [c_7_1]; rfl) (by decide) ?_
      refine lv_aload_n hx hb dX11_perform_99 rfl (lv_at hl 0 rfl) ?_
      refine lv_iload_n hx hb dX11_perform_100 rfl (lv_at hl 1 rfl) ?_
      have hq_101_0 := hO.1
      have hO := hO.2
      refine cx_Vi (As := [.int x1]) (rest := []) C (c_m_work l g st x1 hq_101_0) (cwV 1 hts (gd_V _ mw838 mw839 mw840 mw3 mw841) rfl rfl rfl yd_yX11_work ⟨Nat.le_of_ble_eq_true rfl, Nat.le_of_ble_eq_true rfl⟩) (va_recv hK hI.1 (ci := 11) (q0 := 0) rfl rfl) hI rfl hl.1 rfl (Nat.le_of_ble_eq_true rfl) dX11_perform_101 (fun H locs hI => ?_)
      exact cx_iret C hI (congrArg Prod.fst hF) (congrArg Prod.snd hF) dX11_perform_104
    · have hF := hF.trans (if_neg c_7_1)
      have hO := hO.2 c_7_1
      by_cases c_7_2 : ((ushr x1 (25 : Int32)) &&& (7 : Int32)) = (2 : Int32)
      · have hF := hF.trans (if_pos c_7_2)
        have hO := hO.1 c_7_2
        refine lv_tableIn (off := 98) (tgt := 105) hx hb dX11_perform_7 (by rw [c_7_2]; decide) (by rw [c_7_2]; decide) (by rw [c_7_2]; rfl) (by decide) ?_
        exact k_m_perform_b105 g C st x1 H locs ls hI (lv_sub hl [0, 1] rfl) hO X hF
      · have hF := hF.trans (if_neg c_7_2)
        have hO := hO.2 c_7_2
        by_cases c_7_3 : ((ushr x1 (25 : Int32)) &&& (7 : Int32)) = (3 : Int32)
        · have hF := hF.trans (if_pos c_7_3)
          have hO := hO.1 c_7_3
          refine lv_tableIn (off := 98) (tgt := 105) hx hb dX11_perform_7 (by rw [c_7_3]; decide) (by rw [c_7_3]; decide) (by rw [c_7_3]; rfl) (by decide) ?_
          exact k_m_perform_b105 g C st x1 H locs ls hI (lv_sub hl [0, 1] rfl) hO X hF
        · have hF := hF.trans (if_neg c_7_3)
          have hO := hO.2 c_7_3
          by_cases c_7_4 : ((ushr x1 (25 : Int32)) &&& (7 : Int32)) = (4 : Int32)
          · have hF := hF.trans (if_pos c_7_4)
            have hO := hO.1 c_7_4
            refine lv_tableIn (off := 104) (tgt := 111) hx hb dX11_perform_7 (by rw [c_7_4]; decide) (by rw [c_7_4]; decide) (by rw [c_7_4]; rfl) (by decide) ?_
            refine lv_aload_n hx hb dX11_perform_111 rfl (lv_at hl 0 rfl) ?_
            refine lv_iload_n hx hb dX11_perform_112 rfl (lv_at hl 1 rfl) ?_
            have hq_113_0 := hO.1
            have hO := hO.2
            refine cx_Vi (As := [.int x1]) (rest := []) C (c_m_many l g st x1 hq_113_0) (cwV 1 hts (gd_V _ mw912 mw913 mw914 mw3 mw915) rfl rfl rfl yd_yX11_many ⟨Nat.le_of_ble_eq_true rfl, Nat.le_of_ble_eq_true rfl⟩) (va_recv hK hI.1 (ci := 11) (q0 := 0) rfl rfl) hI rfl hl.1 rfl (Nat.le_of_ble_eq_true rfl) dX11_perform_113 (fun H locs hI => ?_)
            exact cx_iret C hI (congrArg Prod.fst hF) (congrArg Prod.snd hF) dX11_perform_116
          · have hF := hF.trans (if_neg c_7_4)
            have hO := hO.2 c_7_4
            by_cases c_7_5 : ((ushr x1 (25 : Int32)) &&& (7 : Int32)) = (5 : Int32)
            · have hF := hF.trans (if_pos c_7_5)
              have hO := hO.1 c_7_5
              refine lv_tableIn (off := 110) (tgt := 117) hx hb dX11_perform_7 (by rw [c_7_5]; decide) (by rw [c_7_5]; decide) (by rw [c_7_5]; rfl) (by decide) ?_
              refine lv_aload_n hx hb dX11_perform_117 rfl (lv_at hl 0 rfl) ?_
              refine lv_iload_n hx hb dX11_perform_118 rfl (lv_at hl 1 rfl) ?_
              have hq_119_0 := hO.1
              have hO := hO.2
              refine cx_Vi (As := [.int x1]) (rest := []) C (c_m_branch l g st x1 hq_119_0) (cwV 1 hts (gd_V _ mw916 mw917 mw918 mw3 mw919) rfl rfl rfl yd_yX11_branch ⟨Nat.le_of_ble_eq_true rfl, Nat.le_of_ble_eq_true rfl⟩) (va_recv hK hI.1 (ci := 11) (q0 := 0) rfl rfl) hI rfl hl.1 rfl (Nat.le_of_ble_eq_true rfl) dX11_perform_119 (fun H locs hI => ?_)
              exact cx_iret C hI (congrArg Prod.fst hF) (congrArg Prod.snd hF) dX11_perform_122
            · have hF := hF.trans (if_neg c_7_5)
              have hO := hO.2 c_7_5
              by_cases c_7_6 : ((ushr x1 (25 : Int32)) &&& (7 : Int32)) = (6 : Int32)
              · have hF := hF.trans (if_pos c_7_6)
                have hO := hO.1 c_7_6
                refine lv_tableIn (off := 116) (tgt := 123) hx hb dX11_perform_7 (by rw [c_7_6]; decide) (by rw [c_7_6]; decide) (by rw [c_7_6]; rfl) (by decide) ?_
                refine lv_aload_n hx hb dX11_perform_123 rfl (lv_at hl 0 rfl) ?_
                have hq_124_0 := hO.1
                have hO := hO.2
                refine cx_Vi (As := []) (rest := []) C (c_m_undefined l g st  hq_124_0) (cwV 0 hts (gd_V _ mw834 mw835 mw836 mw3 mw837) rfl rfl rfl yd_yX11_undefined ⟨Nat.le_of_ble_eq_true rfl, Nat.le_of_ble_eq_true rfl⟩) (va_recv hK hI.1 (ci := 11) (q0 := 0) rfl rfl) hI rfl hl.1 rfl (Nat.le_of_ble_eq_true rfl) dX11_perform_124 (fun H locs hI => ?_)
                exact cx_iret C hI (congrArg Prod.fst hF) (congrArg Prod.snd hF) dX11_perform_127
              · have hF := hF.trans (if_neg c_7_6)
                have hO := hO.2 c_7_6
                refine lv_tableOut (tgt := 128) hx hb dX11_perform_7 (by have h0 := lv_neT (a := 0) c_7_0 (by decide); have h1 := lv_neT (a := 1) c_7_1 (by decide); have h2 := lv_neT (a := 2) c_7_2 (by decide); have h3 := lv_neT (a := 3) c_7_3 (by decide); have h4 := lv_neT (a := 4) c_7_4 (by decide); have h5 := lv_neT (a := 5) c_7_5 (by decide); have h6 := lv_neT (a := 6) c_7_6 (by decide); omega) (by decide) ?_
                refine lv_iload_n hx hb dX11_perform_128 rfl (lv_at hl 1 rfl) ?_
                refine lv_bipush (v := (24 : Int32)) hx hb dX11_perform_129 (by decide) ?_
                refine lv_ishr hx hb dX11_perform_131 ?_
                refine lv_iconst (v := (1 : Int32)) hx hb dX11_perform_132 (by decide) ?_
                refine lv_iand hx hb dX11_perform_133 ?_
                refine lv_iconst (v := (1 : Int32)) hx hb dX11_perform_134 (by decide) ?_
                refine lv_icmp_ne (tgt := 150) hx hb dX11_perform_135 (by decide) (fun c_135 => ?_) (fun c_135 => ?_)
                · have hF := hF.trans (if_neg c_135)
                  have hO := hO.2 c_135
                  refine lv_aload_n hx hb dX11_perform_150 rfl (lv_at hl 0 rfl) ?_
                  have hq_151_0 := hO.1
                  have hO := hO.2
                  refine cx_Vi (As := []) (rest := []) C (c_m_undefined l g st  hq_151_0) (cwV 0 hts (gd_V _ mw834 mw835 mw836 mw3 mw837) rfl rfl rfl yd_yX11_undefined ⟨Nat.le_of_ble_eq_true rfl, Nat.le_of_ble_eq_true rfl⟩) (va_recv hK hI.1 (ci := 11) (q0 := 0) rfl rfl) hI rfl hl.1 rfl (Nat.le_of_ble_eq_true rfl) dX11_perform_151 (fun H locs hI => ?_)
                  exact cx_iret C hI (congrArg Prod.fst hF) (congrArg Prod.snd hF) dX11_perform_154
                · have hF := hF.trans (if_pos c_135)
                  have hO := hO.1 c_135
                  refine lv_aload_n hx hb dX11_perform_138 rfl (lv_at hl 0 rfl) ?_
                  refine lv_iconst (v := (1 : Int32)) hx hb dX11_perform_139 (by decide) ?_
                  refine lv_iconst (v := (3 : Int32)) hx hb dX11_perform_140 (by decide) ?_
                  refine lv_bipush (v := (8 : Int32)) hx hb dX11_perform_141 (by decide) ?_
                  refine lv_iconst (v := (4 : Int32)) hx hb dX11_perform_143 (by decide) ?_
                  have hq_144_0 := hO.1
                  have hO := hO.2
                  refine cx_Vi (As := [.int (1 : Int32), .int (3 : Int32), .int (8 : Int32), .int (4 : Int32)]) (rest := []) C (c_m_trap l g st (1 : Int32) (3 : Int32) (8 : Int32) (4 : Int32) hq_144_0) (cwV 4 hts (gd_V _ mw765 mw766 mw767 mw3 mw768) rfl rfl rfl yd_yX11_trap ⟨Nat.le_of_ble_eq_true rfl, Nat.le_of_ble_eq_true rfl⟩) (va_recv hK hI.1 (ci := 11) (q0 := 0) rfl rfl) hI rfl hl.1 rfl (Nat.le_of_ble_eq_true rfl) dX11_perform_144 (fun H locs hI => ?_)
                  exact k_m_perform_b147 g C (m_trap st (1 : Int32) (3 : Int32) (8 : Int32) (4 : Int32)).1 (m_trap st (1 : Int32) (3 : Int32) (8 : Int32) (4 : Int32)).2 H locs ls hI (lv_sub hl [0] rfl) X hF
set_option maxHeartbeats 4000000 in
set_option maxRecDepth 100000 in
theorem c_m_perform (l : Launch) (g : Gm) (st : CS) (x1 : Int32) (hO : o_m_perform st x1) : Mi l yX11_perform wq_X11_perform rm_m_perform (gD g) vwCl (mty g) (mw g) (mz g) [.ref (gad g 0), .int x1] st (m_perform st x1).1 (m_perform st x1).2 := by
  intro sz
  refine Met.ofW (cc := cX11_perform) (maxL := 2) (ret := (some .int)) (by decide) rfl ?_
  intro p e s m args below meth c s₁ B hml hv
  obtain ⟨rfl, hsz, hP, hK, hD0, hZ⟩ := hv
  subst hsz
  have hl := lv_entry ([.ref (gad g 0), .int x1]) (n := 2) (Nat.le_of_ble_eq_true rfl)
  rw [lg_entry_eq]
  generalize (lg_sl ([.ref (gad g 0), .int x1]) ++ List.replicate (2 - (lg_sl ([.ref (gad g 0), .int x1])).length) Slot.unset).toArray = ls at hl ⊢
  exact k_m_perform g ⟨B.exec, B.bytes, B.returns, hml, findClass_of_methodNamed B.named, atoms_spec (ws := wq_X11_perform) B.pre, B.notSynchronized, hK, fun q h => Or.inr h, hZ, mz_ok g⟩ st x1 _ _ ls ⟨hP, hD0.self, va_S.rf⟩ hl hO _ rfl
abbrev wq_X11_one : List Cond := .code yX11_one cX11_one 9 (some .int) :: wAll
theorem yd_yX11_one : yX11_one.cls = RX11 ∧ yX11_one.cls ≠ "java/lang/invoke/MethodHandle" ∧ yX11_one.cls ≠ "java/lang/invoke/VarHandle" ∧ (parseMethodDescriptor yX11_one.desc).map (fun d => d.parameters.length) = some 0 := by decide +kernel
abbrev rm_m_one : Room := { frames := 6, cells := 0, slots := 0, locals := 146 }
def m_one_b204 : Nat → CS → Int64 → Int32 → Int64 → Int32 → Option (CS × Int32)
  | 0, _, _, _, _, _ => none
  | n + 1, st, x3, x5, x6, x8 => (if ((7 : Int32) ≤ x8) then (if ((lg_cmp x6 x3) = 0) then (some ((sI st 1 (((gI st 1) &&& (-67108861 : Int32)) ||| (gI st 3))), x5)) else (some (st, x5))) else (m_one_b204 n st x3 x5 (x6 + ((gB st 0) x8.toNatClampNeg)) (x8 + (1 : Int32))))
def o_m_one_b204 : Nat → CS → Int64 → Int32 → Int64 → Int32 → Prop
  | 0, _, _, _, _, _ => True
  | n + 1, st, x3, x5, x6, x8 => ((((7 : Int32) ≤ x8) → True) ∧ (¬ ((7 : Int32) ≤ x8) → (vp_in x8 7 ∧ (o_m_one_b204 n st x3 x5 (x6 + ((gB st 0) x8.toNatClampNeg)) (x8 + (1 : Int32))))))
set_option maxHeartbeats 4000000 in
set_option maxRecDepth 100000 in
theorem k_m_one_b204 {p : Program} {l : Launch} {e : Env} {s : State} {m : MethodId} {args : Array Value} {below : List Frame} {meth : Method} {c : Code} {A : Nat → Prop} (g : Gm) (C : cX p s m args meth c A cX11_one (some .int) 9 RX11 wq_X11_one (gD g) vwCl (mty g) (mz g)) : ∀ (n : Nat) (st : CS) (x3 : Int64) (x5 : Int32) (x6 : Int64) (x8 : Int32) (H : Heap) (locs : List Loc) (ls : Array Slot), cI (gD g) vwCl (mw g) A s st H locs → lv_has ls 9 [(0, .ref (gad g 0)), (3, .long x3), (5, .int x5), (6, .long x6), (8, .int x8)] → o_m_one_b204 n st x3 x5 x6 x8 → ∀ (X : CS × Int32), some X = m_one_b204 n st x3 x5 x6 x8 → W p l e rm_m_one s m args below meth c H locs 0 0 (MQ below (cQi (gD g) vwCl (mty g) (mw g) A X.1 X.2) args s 0 0 A) (F0 m 204 ls []) := by
  obtain ⟨hx, hb, hr, hml, hown, hts, hlocks, hK, hA, hZ, hzo⟩ := id C
  intro n
  induction n with
  | zero => intro st x3 x5 x6 x8 H locs ls hI hl hO X hF; exact absurd hF (by simp [m_one_b204])
  | succ n ih =>
    intro st x3 x5 x6 x8 H locs ls hI hl hO X hF
    rw [m_one_b204] at hF
    rw [o_m_one_b204] at hO
    refine lv_iload hx hb dX11_one_204 (lv_at hl 4 rfl) ?_
    refine lv_bipush (v := (7 : Int32)) hx hb dX11_one_206 (by decide) ?_
    refine lv_icmp_ge (tgt := 229) hx hb dX11_one_208 (by decide) (fun c_208 => ?_) (fun c_208 => ?_)
    · have hF := hF.trans (if_pos c_208)
      have hO := hO.1 c_208
      refine lv_lload hx hb dX11_one_229 (lv_at hl 3 rfl) ?_
      refine lv_lload_n hx hb dX11_one_231 rfl (lv_at hl 1 rfl) ?_
      refine W.lcmp hx hb dX11_one_232 ?_
      refine lv_if_ne (tgt := 252) hx hb dX11_one_233 (by decide) (fun c_233 => ?_) (fun c_233 => ?_)
      · have hF := hF.trans (if_neg c_233)
        refine lv_iload hx hb dX11_one_252 (lv_at hl 2 rfl) ?_
        have hF := Option.some.inj hF
        exact cx_iret C hI (congrArg Prod.fst hF) (congrArg Prod.snd hF) dX11_one_254
      · have hF := hF.trans (if_pos c_233)
        refine lv_aload_n hx hb dX11_one_236 rfl (lv_at hl 0 rfl) ?_
        refine lv_aload_n hx hb dX11_one_237 rfl (lv_at hl 0 rfl) ?_
        refine va_get (D := gD g) (ci := 11) (C := RX11) (T := TX11) (N := 50) (v := .int (gI st 1)) hx hb hts (fun w h => List.mem_cons_of_mem _ (isX110 w h)) hown hK hI.1 0 rfl rfl 5 (by decide) (hts _ (List.mem_cons_of_mem _ mw210)) (fun _ h9 => h9) rfl dX11_one_238 ?_
        refine lv_ldc (v := (-67108861 : Int32)) hx hb hown (hts _ (List.mem_cons_of_mem _ mw752)) dX11_one_241 ?_
        refine lv_iand hx hb dX11_one_243 ?_
        refine lv_aload_n hx hb dX11_one_244 rfl (lv_at hl 0 rfl) ?_
        refine va_get (D := gD g) (ci := 11) (C := RX11) (T := TX11) (N := 50) (v := .int (gI st 3)) hx hb hts (fun w h => List.mem_cons_of_mem _ (isX110 w h)) hown hK hI.1 0 rfl rfl 7 (by decide) (hts _ (List.mem_cons_of_mem _ mw750)) (fun _ h9 => h9) rfl dX11_one_245 ?_
        refine lv_ior hx hb dX11_one_248 ?_
        refine va_put (D := gD g) (ci := 11) (C := RX11) (T := TX11) (N := 50) (v := .int (((gI st 1) &&& (-67108861 : Int32)) ||| (gI st 3))) (ty := .int) hx hb hts (fun w h => List.mem_cons_of_mem _ (isX110 w h)) tyX11 tyX11_ok nmX11 hown hK hI.1 hI.2.1 hI.2.2 0 rfl rfl 5 (by decide) (hts _ (List.mem_cons_of_mem _ mw210)) (fun _ h9 => h9) rfl (by decide +kernel) rfl rfl (Nat.le_of_ble_eq_true rfl) dX11_one_249 (fun H locs hP hD hS => ?_)
        have hI : cI (gD g) vwCl (mw g) A s (sI st 1 (((gI st 1) &&& (-67108861 : Int32)) ||| (gI st 3))) H locs := ⟨hP, hD, hS⟩
        refine lv_iload hx hb dX11_one_252 (lv_at hl 2 rfl) ?_
        have hF := Option.some.inj hF
        exact cx_iret C hI (congrArg Prod.fst hF) (congrArg Prod.snd hF) dX11_one_254
    · have hF := hF.trans (if_neg c_208)
      have hO := hO.2 c_208
      refine lv_lload hx hb dX11_one_211 (lv_at hl 3 rfl) ?_
      refine lv_aload_n hx hb dX11_one_213 rfl (lv_at hl 0 rfl) ?_
      refine va_get (D := gD g) (ci := 11) (C := RX11) (T := TX11) (N := 50) (v := .ref (gad g 18)) hx hb hts (fun w h => List.mem_cons_of_mem _ (isX110 w h)) hown hK hI.1 0 rfl rfl 46 (by decide) (hts _ (List.mem_cons_of_mem _ mw203)) (fun _ h9 => h9) rfl dX11_one_214 ?_
      refine lv_iload hx hb dX11_one_217 (lv_at hl 4 rfl) ?_
      have hq_219_0 := hO.1
      have hO := hO.2
      refine va_lald (f := (gB st 0)) hx hb hK hI.1 18 17 rfl rfl hq_219_0 dX11_one_219 ?_
      refine lv_ladd hx hb dX11_one_220 ?_
      refine lv_lstore (lv' := [(6, .long (x6 + ((gB st 0) x8.toNatClampNeg))), (0, .ref (gad g 0)), (3, .long x3), (5, .int x5), (8, .int x8)]) hx hb dX11_one_221 hl (by decide) rfl (fun ls hl => ?_)
      refine lv_iinc (v := (x8 + (1 : Int32))) (lv' := [(8, .int (x8 + (1 : Int32))), (6, .long (x6 + ((gB st 0) x8.toNatClampNeg))), (0, .ref (gad g 0)), (3, .long x3), (5, .int x5)]) hx hb dX11_one_223 hl (k := 4) rfl rfl (by decide) rfl (fun ls hl => ?_)
      refine lv_goto (tgt := 204) hx hb dX11_one_226 (by decide) ?_
      exact ih st x3 x5 (x6 + ((gB st 0) x8.toNatClampNeg)) (x8 + (1 : Int32)) H locs ls hI (lv_sub hl [2, 3, 4, 1, 0] rfl) hO X hF
def m_one_b204t (st : CS) (x3 : Int64) (x5 : Int32) (x6 : Int64) (x8 : Int32) : CS × Int32 := (m_one_b204 (8) st x3 x5 x6 x8).getD (st, 0)
def o_m_one_b204t (st : CS) (x3 : Int64) (x5 : Int32) (x6 : Int64) (x8 : Int32) : Prop := o_m_one_b204 (8) st x3 x5 x6 x8 ∧ ∃ r, m_one_b204 (8) st x3 x5 x6 x8 = some r
set_option maxHeartbeats 4000000 in
set_option maxRecDepth 100000 in
theorem k_m_one_b204t {p : Program} {l : Launch} {e : Env} {s : State} {m : MethodId} {args : Array Value} {below : List Frame} {meth : Method} {c : Code} {A : Nat → Prop} (g : Gm) (C : cX p s m args meth c A cX11_one (some .int) 9 RX11 wq_X11_one (gD g) vwCl (mty g) (mz g)) (st : CS) (x3 : Int64) (x5 : Int32) (x6 : Int64) (x8 : Int32) (H : Heap) (locs : List Loc) (ls : Array Slot) (hI : cI (gD g) vwCl (mw g) A s st H locs) (hl : lv_has ls 9 [(0, .ref (gad g 0)), (3, .long x3), (5, .int x5), (6, .long x6), (8, .int x8)]) (hO : o_m_one_b204t st x3 x5 x6 x8) (X : CS × Int32) (hF : X = m_one_b204t st x3 x5 x6 x8) : W p l e rm_m_one s m args below meth c H locs 0 0 (MQ below (cQi (gD g) vwCl (mty g) (mw g) A X.1 X.2) args s 0 0 A) (F0 m 204 ls []) := by
  refine k_m_one_b204 g C (8) st x3 x5 x6 x8 H locs ls hI hl hO.1 X ?_
  rw [hF]
  exact some_getD hO.2
def m_one_b196 (st : CS) (x3 : Int64) (y0 : Int32) : CS × Int32 := (m_one_b204t st x3 y0 (0 : Int64) (0 : Int32))
def o_m_one_b196 (st : CS) (x3 : Int64) (y0 : Int32) : Prop := (o_m_one_b204t st x3 y0 (0 : Int64) (0 : Int32))
set_option maxHeartbeats 4000000 in
set_option maxRecDepth 100000 in
theorem k_m_one_b196 {p : Program} {l : Launch} {e : Env} {s : State} {m : MethodId} {args : Array Value} {below : List Frame} {meth : Method} {c : Code} {A : Nat → Prop} (g : Gm) (C : cX p s m args meth c A cX11_one (some .int) 9 RX11 wq_X11_one (gD g) vwCl (mty g) (mz g)) (st : CS) (x3 : Int64) (y0 : Int32) (H : Heap) (locs : List Loc) (ls : Array Slot) (hI : cI (gD g) vwCl (mw g) A s st H locs) (hl : lv_has ls 9 [(0, .ref (gad g 0)), (3, .long x3)]) (hO : o_m_one_b196 st x3 y0) (X : CS × Int32) (hF : X = m_one_b196 st x3 y0) : W p l e rm_m_one s m args below meth c H locs 0 0 (MQ below (cQi (gD g) vwCl (mty g) (mw g) A X.1 X.2) args s 0 0 A) (F0 m 196 ls [.int y0]) := by
  obtain ⟨hx, hb, hr, hml, hown, hts, hlocks, hK, hA, hZ, hzo⟩ := id C
  unfold m_one_b196 at hF
  unfold o_m_one_b196 at hO
  refine lv_istore (lv' := [(5, .int y0), (0, .ref (gad g 0)), (3, .long x3)]) hx hb dX11_one_196 hl (by decide) rfl (fun ls hl => ?_)
  refine lv_lconst (v := (0 : Int64)) hx hb dX11_one_198 (by decide) ?_
  refine lv_lstore (lv' := [(6, .long (0 : Int64)), (5, .int y0), (0, .ref (gad g 0)), (3, .long x3)]) hx hb dX11_one_199 hl (by decide) rfl (fun ls hl => ?_)
  refine lv_iconst (v := (0 : Int32)) hx hb dX11_one_201 (by decide) ?_
  refine lv_istore (lv' := [(8, .int (0 : Int32)), (6, .long (0 : Int64)), (5, .int y0), (0, .ref (gad g 0)), (3, .long x3)]) hx hb dX11_one_202 hl (by decide) rfl (fun ls hl => ?_)
  exact k_m_one_b204t g C st x3 y0 (0 : Int64) (0 : Int32) H locs ls hI (lv_sub hl [3, 4, 2, 1, 0] rfl) hO X hF
def m_one_b168 : Nat → CS → Int32 → Int64 → Int32 → Option (CS × Int32)
  | 0, _, _, _, _ => none
  | n + 1, st, x2, x3, x5 => (if ((7 : Int32) ≤ x5) then (some (m_one_b196 (m_perform st x2).1 x3 (m_perform st x2).2)) else (m_one_b168 n st x2 (x3 + ((gB st 0) x5.toNatClampNeg)) (x5 + (1 : Int32))))
def o_m_one_b168 : Nat → CS → Int32 → Int64 → Int32 → Prop
  | 0, _, _, _, _ => True
  | n + 1, st, x2, x3, x5 => ((((7 : Int32) ≤ x5) → ((o_m_perform st x2) ∧ (o_m_one_b196 (m_perform st x2).1 x3 (m_perform st x2).2))) ∧ (¬ ((7 : Int32) ≤ x5) → (vp_in x5 7 ∧ (o_m_one_b168 n st x2 (x3 + ((gB st 0) x5.toNatClampNeg)) (x5 + (1 : Int32))))))
set_option maxHeartbeats 4000000 in
set_option maxRecDepth 100000 in
theorem k_m_one_b168 {p : Program} {l : Launch} {e : Env} {s : State} {m : MethodId} {args : Array Value} {below : List Frame} {meth : Method} {c : Code} {A : Nat → Prop} (g : Gm) (C : cX p s m args meth c A cX11_one (some .int) 9 RX11 wq_X11_one (gD g) vwCl (mty g) (mz g)) : ∀ (n : Nat) (st : CS) (x2 : Int32) (x3 : Int64) (x5 : Int32) (H : Heap) (locs : List Loc) (ls : Array Slot), cI (gD g) vwCl (mw g) A s st H locs → lv_has ls 9 [(0, .ref (gad g 0)), (2, .int x2), (3, .long x3), (5, .int x5)] → o_m_one_b168 n st x2 x3 x5 → ∀ (X : CS × Int32), some X = m_one_b168 n st x2 x3 x5 → W p l e rm_m_one s m args below meth c H locs 0 0 (MQ below (cQi (gD g) vwCl (mty g) (mw g) A X.1 X.2) args s 0 0 A) (F0 m 168 ls []) := by
  obtain ⟨hx, hb, hr, hml, hown, hts, hlocks, hK, hA, hZ, hzo⟩ := id C
  intro n
  induction n with
  | zero => intro st x2 x3 x5 H locs ls hI hl hO X hF; exact absurd hF (by simp [m_one_b168])
  | succ n ih =>
    intro st x2 x3 x5 H locs ls hI hl hO X hF
    rw [m_one_b168] at hF
    rw [o_m_one_b168] at hO
    refine lv_iload hx hb dX11_one_168 (lv_at hl 3 rfl) ?_
    refine lv_bipush (v := (7 : Int32)) hx hb dX11_one_170 (by decide) ?_
    refine lv_icmp_ge (tgt := 191) hx hb dX11_one_172 (by decide) (fun c_172 => ?_) (fun c_172 => ?_)
    · have hF := hF.trans (if_pos c_172)
      have hO := hO.1 c_172
      refine lv_aload_n hx hb dX11_one_191 rfl (lv_at hl 0 rfl) ?_
      refine lv_iload_n hx hb dX11_one_192 rfl (lv_at hl 1 rfl) ?_
      have hq_193_0 := hO.1
      have hO := hO.2
      refine cx_Vi (As := [.int x2]) (rest := []) C (c_m_perform l g st x2 hq_193_0) (cwV 1 hts (gd_V _ mw818 mw819 mw820 mw3 mw821) rfl rfl rfl yd_yX11_perform ⟨Nat.le_of_ble_eq_true rfl, Nat.le_of_ble_eq_true rfl⟩) (va_recv hK hI.1 (ci := 11) (q0 := 0) rfl rfl) hI rfl hl.1 rfl (Nat.le_of_ble_eq_true rfl) dX11_one_193 (fun H locs hI => ?_)
      have hF := Option.some.inj hF
      exact k_m_one_b196 g C (m_perform st x2).1 x3 (m_perform st x2).2 H locs ls hI (lv_sub hl [0, 2] rfl) hO X hF
    · have hF := hF.trans (if_neg c_172)
      have hO := hO.2 c_172
      refine lv_lload_n hx hb dX11_one_175 rfl (lv_at hl 2 rfl) ?_
      refine lv_aload_n hx hb dX11_one_176 rfl (lv_at hl 0 rfl) ?_
      refine va_get (D := gD g) (ci := 11) (C := RX11) (T := TX11) (N := 50) (v := .ref (gad g 18)) hx hb hts (fun w h => List.mem_cons_of_mem _ (isX110 w h)) hown hK hI.1 0 rfl rfl 46 (by decide) (hts _ (List.mem_cons_of_mem _ mw203)) (fun _ h9 => h9) rfl dX11_one_177 ?_
      refine lv_iload hx hb dX11_one_180 (lv_at hl 3 rfl) ?_
      have hq_182_0 := hO.1
      have hO := hO.2
      refine va_lald (f := (gB st 0)) hx hb hK hI.1 18 17 rfl rfl hq_182_0 dX11_one_182 ?_
      refine lv_ladd hx hb dX11_one_183 ?_
      refine lv_lstore_n (lv' := [(3, .long (x3 + ((gB st 0) x5.toNatClampNeg))), (0, .ref (gad g 0)), (2, .int x2), (5, .int x5)]) hx hb dX11_one_184 rfl hl (by decide) rfl (fun ls hl => ?_)
      refine lv_iinc (v := (x5 + (1 : Int32))) (lv' := [(5, .int (x5 + (1 : Int32))), (3, .long (x3 + ((gB st 0) x5.toNatClampNeg))), (0, .ref (gad g 0)), (2, .int x2)]) hx hb dX11_one_185 hl (k := 3) rfl rfl (by decide) rfl (fun ls hl => ?_)
      refine lv_goto (tgt := 168) hx hb dX11_one_188 (by decide) ?_
      exact ih st x2 (x3 + ((gB st 0) x5.toNatClampNeg)) (x5 + (1 : Int32)) H locs ls hI (lv_sub hl [2, 3, 1, 0] rfl) hO X hF
def m_one_b168t (st : CS) (x2 : Int32) (x3 : Int64) (x5 : Int32) : CS × Int32 := (m_one_b168 (8) st x2 x3 x5).getD (st, 0)
def o_m_one_b168t (st : CS) (x2 : Int32) (x3 : Int64) (x5 : Int32) : Prop := o_m_one_b168 (8) st x2 x3 x5 ∧ ∃ r, m_one_b168 (8) st x2 x3 x5 = some r
set_option maxHeartbeats 4000000 in
set_option maxRecDepth 100000 in
theorem k_m_one_b168t {p : Program} {l : Launch} {e : Env} {s : State} {m : MethodId} {args : Array Value} {below : List Frame} {meth : Method} {c : Code} {A : Nat → Prop} (g : Gm) (C : cX p s m args meth c A cX11_one (some .int) 9 RX11 wq_X11_one (gD g) vwCl (mty g) (mz g)) (st : CS) (x2 : Int32) (x3 : Int64) (x5 : Int32) (H : Heap) (locs : List Loc) (ls : Array Slot) (hI : cI (gD g) vwCl (mw g) A s st H locs) (hl : lv_has ls 9 [(0, .ref (gad g 0)), (2, .int x2), (3, .long x3), (5, .int x5)]) (hO : o_m_one_b168t st x2 x3 x5) (X : CS × Int32) (hF : X = m_one_b168t st x2 x3 x5) : W p l e rm_m_one s m args below meth c H locs 0 0 (MQ below (cQi (gD g) vwCl (mty g) (mw g) A X.1 X.2) args s 0 0 A) (F0 m 168 ls []) := by
  refine k_m_one_b168 g C (8) st x2 x3 x5 H locs ls hI hl hO.1 X ?_
  rw [hF]
  exact some_getD hO.2
def m_one_b114 (st : CS) (y0 : Int32) : CS × Int32 := (if ((m_isSo (sI st 3 (m_ahead st (4 : Int32))) (ushr y0 (28 : Int32))) = 0) then ((sL (sI (sI st 3 (m_ahead st (4 : Int32))) 1 (((gI st 1) &&& (-67108861 : Int32)) ||| (m_ahead st (4 : Int32)))) 5 ((gL st 5) + (1 : Int64))), (1 : Int32)) else (m_one_b168t (sI st 3 (m_ahead st (4 : Int32))) y0 (0 : Int64) (0 : Int32)))
def o_m_one_b114 (st : CS) (y0 : Int32) : Prop := ((((m_isSo (sI st 3 (m_ahead st (4 : Int32))) (ushr y0 (28 : Int32))) = 0) → True) ∧ (¬ ((m_isSo (sI st 3 (m_ahead st (4 : Int32))) (ushr y0 (28 : Int32))) = 0) → (o_m_one_b168t (sI st 3 (m_ahead st (4 : Int32))) y0 (0 : Int64) (0 : Int32))))
set_option maxHeartbeats 4000000 in
set_option maxRecDepth 100000 in
theorem k_m_one_b114 {p : Program} {l : Launch} {e : Env} {s : State} {m : MethodId} {args : Array Value} {below : List Frame} {meth : Method} {c : Code} {A : Nat → Prop} (g : Gm) (C : cX p s m args meth c A cX11_one (some .int) 9 RX11 wq_X11_one (gD g) vwCl (mty g) (mz g)) (st : CS) (y0 : Int32) (H : Heap) (locs : List Loc) (ls : Array Slot) (hI : cI (gD g) vwCl (mw g) A s st H locs) (hl : lv_has ls 9 [(0, .ref (gad g 0))]) (hO : o_m_one_b114 st y0) (X : CS × Int32) (hF : X = m_one_b114 st y0) : W p l e rm_m_one s m args below meth c H locs 0 0 (MQ below (cQi (gD g) vwCl (mty g) (mw g) A X.1 X.2) args s 0 0 A) (F0 m 114 ls [.int y0]) := by
  obtain ⟨hx, hb, hr, hml, hown, hts, hlocks, hK, hA, hZ, hzo⟩ := id C
  unfold m_one_b114 at hF
  unfold o_m_one_b114 at hO
  refine lv_istore_n (lv' := [(2, .int y0), (0, .ref (gad g 0))]) hx hb dX11_one_114 rfl hl (by decide) rfl (fun ls hl => ?_)
  refine lv_aload_n hx hb dX11_one_115 rfl (lv_at hl 1 rfl) ?_
  refine lv_aload_n hx hb dX11_one_116 rfl (lv_at hl 1 rfl) ?_
  refine lv_iconst (v := (4 : Int32)) hx hb dX11_one_117 (by decide) ?_
  refine cx_Vi (As := [.int (4 : Int32)]) (rest := [.ref (gad g 0)]) C (c_m_ahead l g st (4 : Int32)) (cwV 1 hts (gd_V _ mw769 mw770 mw771 mw3 mw772) rfl rfl rfl yd_yX11_ahead ⟨Nat.le_of_ble_eq_true rfl, Nat.le_of_ble_eq_true rfl⟩) (va_recv hK hI.1 (ci := 11) (q0 := 0) rfl rfl) hI rfl hl.1 rfl (Nat.le_of_ble_eq_true rfl) dX11_one_118 (fun H locs hI => ?_)
  refine va_put (D := gD g) (ci := 11) (C := RX11) (T := TX11) (N := 50) (v := .int (m_ahead st (4 : Int32))) (ty := .int) hx hb hts (fun w h => List.mem_cons_of_mem _ (isX110 w h)) tyX11 tyX11_ok nmX11 hown hK hI.1 hI.2.1 hI.2.2 0 rfl rfl 7 (by decide) (hts _ (List.mem_cons_of_mem _ mw750)) (fun _ h9 => h9) rfl (by decide +kernel) rfl rfl (Nat.le_of_ble_eq_true rfl) dX11_one_121 (fun H locs hP hD hS => ?_)
  have hI : cI (gD g) vwCl (mw g) A s (sI st 3 (m_ahead st (4 : Int32))) H locs := ⟨hP, hD, hS⟩
  refine lv_aload_n hx hb dX11_one_124 rfl (lv_at hl 1 rfl) ?_
  refine lv_iload_n hx hb dX11_one_125 rfl (lv_at hl 0 rfl) ?_
  refine lv_bipush (v := (28 : Int32)) hx hb dX11_one_126 (by decide) ?_
  refine lv_iushr (v := (ushr y0 (28 : Int32))) hx hb dX11_one_128 rfl ?_
  refine cx_Vi (As := [.int (ushr y0 (28 : Int32))]) (rest := []) C (c_m_isSo l g (sI st 3 (m_ahead st (4 : Int32))) (ushr y0 (28 : Int32))) (cwV 1 hts (gd_V _ mw814 mw815 mw816 mw3 mw817) rfl rfl rfl yd_yX11_isSo ⟨Nat.le_of_ble_eq_true rfl, Nat.le_of_ble_eq_true rfl⟩) (va_recv hK hI.1 (ci := 11) (q0 := 0) rfl rfl) hI rfl hl.1 rfl (Nat.le_of_ble_eq_true rfl) dX11_one_129 (fun H locs hI => ?_)
  refine lv_if_ne (tgt := 163) hx hb dX11_one_132 (by decide) (fun c_132 => ?_) (fun c_132 => ?_)
  · have hF := hF.trans (if_neg c_132)
    have hO := hO.2 c_132
    refine lv_lconst (v := (0 : Int64)) hx hb dX11_one_163 (by decide) ?_
    refine lv_lstore_n (lv' := [(3, .long (0 : Int64)), (2, .int y0), (0, .ref (gad g 0))]) hx hb dX11_one_164 rfl hl (by decide) rfl (fun ls hl => ?_)
    refine lv_iconst (v := (0 : Int32)) hx hb dX11_one_165 (by decide) ?_
    refine lv_istore (lv' := [(5, .int (0 : Int32)), (3, .long (0 : Int64)), (2, .int y0), (0, .ref (gad g 0))]) hx hb dX11_one_166 hl (by decide) rfl (fun ls hl => ?_)
    exact k_m_one_b168t g C (sI st 3 (m_ahead st (4 : Int32))) y0 (0 : Int64) (0 : Int32) H locs ls hI (lv_sub hl [3, 2, 1, 0] rfl) hO X hF
  · have hF := hF.trans (if_pos c_132)
    have hO := hO.1 c_132
    refine lv_aload_n hx hb dX11_one_135 rfl (lv_at hl 1 rfl) ?_
    refine lv_dup hx hb dX11_one_136 rfl ?_
    refine va_get (D := gD g) (ci := 11) (C := RX11) (T := TX11) (N := 50) (v := .long (gL st 5)) hx hb hts (fun w h => List.mem_cons_of_mem _ (isX110 w h)) hown hK hI.1 0 rfl rfl 48 (by decide) (hts _ (List.mem_cons_of_mem _ mw751)) (fun _ h9 => h9) rfl dX11_one_137 ?_
    refine lv_lconst (v := (1 : Int64)) hx hb dX11_one_140 (by decide) ?_
    refine lv_ladd hx hb dX11_one_141 ?_
    refine va_put (D := gD g) (ci := 11) (C := RX11) (T := TX11) (N := 50) (v := .long ((gL st 5) + (1 : Int64))) (ty := .long) hx hb hts (fun w h => List.mem_cons_of_mem _ (isX110 w h)) tyX11 tyX11_ok nmX11 hown hK hI.1 hI.2.1 hI.2.2 0 rfl rfl 48 (by decide) (hts _ (List.mem_cons_of_mem _ mw751)) (fun _ h9 => h9) rfl (by decide +kernel) rfl rfl (Nat.le_of_ble_eq_true rfl) dX11_one_142 (fun H locs hP hD hS => ?_)
    have hI : cI (gD g) vwCl (mw g) A s (sL (sI st 3 (m_ahead st (4 : Int32))) 5 ((gL st 5) + (1 : Int64))) H locs := ⟨hP, hD, hS⟩
    refine lv_aload_n hx hb dX11_one_145 rfl (lv_at hl 1 rfl) ?_
    refine lv_aload_n hx hb dX11_one_146 rfl (lv_at hl 1 rfl) ?_
    refine va_get (D := gD g) (ci := 11) (C := RX11) (T := TX11) (N := 50) (v := .int (gI st 1)) hx hb hts (fun w h => List.mem_cons_of_mem _ (isX110 w h)) hown hK hI.1 0 rfl rfl 5 (by decide) (hts _ (List.mem_cons_of_mem _ mw210)) (fun _ h9 => h9) rfl dX11_one_147 ?_
    refine lv_ldc (v := (-67108861 : Int32)) hx hb hown (hts _ (List.mem_cons_of_mem _ mw752)) dX11_one_150 ?_
    refine lv_iand hx hb dX11_one_152 ?_
    refine lv_aload_n hx hb dX11_one_153 rfl (lv_at hl 1 rfl) ?_
    refine va_get (D := gD g) (ci := 11) (C := RX11) (T := TX11) (N := 50) (v := .int (m_ahead st (4 : Int32))) hx hb hts (fun w h => List.mem_cons_of_mem _ (isX110 w h)) hown hK hI.1 0 rfl rfl 7 (by decide) (hts _ (List.mem_cons_of_mem _ mw750)) (fun _ h9 => h9) rfl dX11_one_154 ?_
    refine lv_ior hx hb dX11_one_157 ?_
    refine va_put (D := gD g) (ci := 11) (C := RX11) (T := TX11) (N := 50) (v := .int (((gI st 1) &&& (-67108861 : Int32)) ||| (m_ahead st (4 : Int32)))) (ty := .int) hx hb hts (fun w h => List.mem_cons_of_mem _ (isX110 w h)) tyX11 tyX11_ok nmX11 hown hK hI.1 hI.2.1 hI.2.2 0 rfl rfl 5 (by decide) (hts _ (List.mem_cons_of_mem _ mw210)) (fun _ h9 => h9) rfl (by decide +kernel) rfl rfl (Nat.le_of_ble_eq_true rfl) dX11_one_158 (fun H locs hP hD hS => ?_)
    have hI : cI (gD g) vwCl (mw g) A s (sL (sI (sI st 3 (m_ahead st (4 : Int32))) 1 (((gI st 1) &&& (-67108861 : Int32)) ||| (m_ahead st (4 : Int32)))) 5 ((gL st 5) + (1 : Int64))) H locs := ⟨hP, hD, hS⟩
    refine lv_iconst (v := (1 : Int32)) hx hb dX11_one_161 (by decide) ?_
    exact cx_iret C hI (congrArg Prod.fst hF) (congrArg Prod.snd hF) dX11_one_162
def m_one_b64 (st : CS) : CS × Int32 := (if ((m_may st (m_mode st) (gI st 2) (0 : Int32)) = 0) then ((m_trap st (2 : Int32) (3 : Int32) (12 : Int32) (4 : Int32)).1, (m_trap st (2 : Int32) (3 : Int32) (12 : Int32) (4 : Int32)).2) else (if ((m_wordAt st (gI st 2)) = (-1 : Int32)) then (m_one_b114 st (0 : Int32)) else (m_one_b114 st ((gA st 5) (m_wordAt st (gI st 2)).toNatClampNeg))))
def o_m_one_b64 (st : CS) : Prop := ((o_m_may st (m_mode st) (gI st 2) (0 : Int32)) ∧ ((((m_may st (m_mode st) (gI st 2) (0 : Int32)) = 0) → ((o_m_trap st (2 : Int32) (3 : Int32) (12 : Int32) (4 : Int32)) ∧ True)) ∧ (¬ ((m_may st (m_mode st) (gI st 2) (0 : Int32)) = 0) → ((o_m_wordAt st (gI st 2)) ∧ ((((m_wordAt st (gI st 2)) = (-1 : Int32)) → (o_m_one_b114 st (0 : Int32))) ∧ (¬ ((m_wordAt st (gI st 2)) = (-1 : Int32)) → (vp_in (m_wordAt st (gI st 2)) 16384 ∧ (o_m_one_b114 st ((gA st 5) (m_wordAt st (gI st 2)).toNatClampNeg)))))))))
set_option maxHeartbeats 4000000 in
set_option maxRecDepth 100000 in
theorem k_m_one_b64 {p : Program} {l : Launch} {e : Env} {s : State} {m : MethodId} {args : Array Value} {below : List Frame} {meth : Method} {c : Code} {A : Nat → Prop} (g : Gm) (C : cX p s m args meth c A cX11_one (some .int) 9 RX11 wq_X11_one (gD g) vwCl (mty g) (mz g)) (st : CS) (H : Heap) (locs : List Loc) (ls : Array Slot) (hI : cI (gD g) vwCl (mw g) A s st H locs) (hl : lv_has ls 9 [(0, .ref (gad g 0))]) (hO : o_m_one_b64 st ) (X : CS × Int32) (hF : X = m_one_b64 st ) : W p l e rm_m_one s m args below meth c H locs 0 0 (MQ below (cQi (gD g) vwCl (mty g) (mw g) A X.1 X.2) args s 0 0 A) (F0 m 64 ls []) := by
  obtain ⟨hx, hb, hr, hml, hown, hts, hlocks, hK, hA, hZ, hzo⟩ := id C
  unfold m_one_b64 at hF
  unfold o_m_one_b64 at hO
  refine lv_aload_n hx hb dX11_one_64 rfl (lv_at hl 0 rfl) ?_
  refine lv_aload_n hx hb dX11_one_65 rfl (lv_at hl 0 rfl) ?_
  refine cx_Vi (As := []) (rest := [.ref (gad g 0)]) C (c_m_mode l g st ) (cwV 0 hts (gd_V _ mw796 mw797 mw798 mw3 mw799) rfl rfl rfl yd_yX11_mode ⟨Nat.le_of_ble_eq_true rfl, Nat.le_of_ble_eq_true rfl⟩) (va_recv hK hI.1 (ci := 11) (q0 := 0) rfl rfl) hI rfl hl.1 rfl (Nat.le_of_ble_eq_true rfl) dX11_one_66 (fun H locs hI => ?_)
  refine lv_aload_n hx hb dX11_one_69 rfl (lv_at hl 0 rfl) ?_
  refine va_get (D := gD g) (ci := 11) (C := RX11) (T := TX11) (N := 50) (v := .int (gI st 2)) hx hb hts (fun w h => List.mem_cons_of_mem _ (isX110 w h)) hown hK hI.1 0 rfl rfl 6 (by decide) (hts _ (List.mem_cons_of_mem _ mw749)) (fun _ h9 => h9) rfl dX11_one_70 ?_
  refine lv_iconst (v := (0 : Int32)) hx hb dX11_one_73 (by decide) ?_
  have hq_74_0 := hO.1
  have hO := hO.2
  refine cx_Vi (As := [.int (m_mode st), .int (gI st 2), .int (0 : Int32)]) (rest := []) C (c_m_may l g st (m_mode st) (gI st 2) (0 : Int32) hq_74_0) (cwV 3 hts (gd_V _ mw800 mw801 mw802 mw3 mw803) rfl rfl rfl yd_yX11_may ⟨Nat.le_of_ble_eq_true rfl, Nat.le_of_ble_eq_true rfl⟩) (va_recv hK hI.1 (ci := 11) (q0 := 0) rfl rfl) hI rfl hl.1 rfl (Nat.le_of_ble_eq_true rfl) dX11_one_74 (fun H locs hI => ?_)
  refine lv_if_ne (tgt := 90) hx hb dX11_one_77 (by decide) (fun c_77 => ?_) (fun c_77 => ?_)
  · have hF := hF.trans (if_neg c_77)
    have hO := hO.2 c_77
    refine lv_aload_n hx hb dX11_one_90 rfl (lv_at hl 0 rfl) ?_
    refine lv_aload_n hx hb dX11_one_91 rfl (lv_at hl 0 rfl) ?_
    refine va_get (D := gD g) (ci := 11) (C := RX11) (T := TX11) (N := 50) (v := .int (gI st 2)) hx hb hts (fun w h => List.mem_cons_of_mem _ (isX110 w h)) hown hK hI.1 0 rfl rfl 6 (by decide) (hts _ (List.mem_cons_of_mem _ mw749)) (fun _ h9 => h9) rfl dX11_one_92 ?_
    have hq_95_0 := hO.1
    have hO := hO.2
    refine cx_Vi (As := [.int (gI st 2)]) (rest := []) C (c_m_wordAt l g st (gI st 2) hq_95_0) (cwV 1 hts (gd_V _ mw809 mw810 mw811 mw3 mw812) rfl rfl rfl yd_yX11_wordAt ⟨Nat.le_of_ble_eq_true rfl, Nat.le_of_ble_eq_true rfl⟩) (va_recv hK hI.1 (ci := 11) (q0 := 0) rfl rfl) hI rfl hl.1 rfl (Nat.le_of_ble_eq_true rfl) dX11_one_95 (fun H locs hI => ?_)
    refine lv_istore_n (lv' := [(1, .int (m_wordAt st (gI st 2))), (0, .ref (gad g 0))]) hx hb dX11_one_98 rfl hl (by decide) rfl (fun ls hl => ?_)
    refine lv_iload_n hx hb dX11_one_99 rfl (lv_at hl 0 rfl) ?_
    refine lv_iconst (v := (-1 : Int32)) hx hb dX11_one_100 (by decide) ?_
    refine lv_icmp_ne (tgt := 108) hx hb dX11_one_101 (by decide) (fun c_101 => ?_) (fun c_101 => ?_)
    · have hF := hF.trans (if_neg c_101)
      have hO := hO.2 c_101
      refine lv_aload_n hx hb dX11_one_108 rfl (lv_at hl 1 rfl) ?_
      refine va_get (D := gD g) (ci := 11) (C := RX11) (T := TX11) (N := 50) (v := .ref (gad g 6)) hx hb hts (fun w h => List.mem_cons_of_mem _ (isX110 w h)) hown hK hI.1 0 rfl rfl 10 (by decide) (hts _ (List.mem_cons_of_mem _ mw190)) (fun _ h9 => h9) rfl dX11_one_109 ?_
      refine lv_iload_n hx hb dX11_one_112 rfl (lv_at hl 0 rfl) ?_
      have hq_113_0 := hO.1
      have hO := hO.2
      refine va_iald (f := (gA st 5)) hx hb hK hI.1 6 5 rfl rfl hq_113_0 dX11_one_113 ?_
      exact k_m_one_b114 g C st ((gA st 5) (m_wordAt st (gI st 2)).toNatClampNeg) H locs ls hI (lv_sub hl [1] rfl) hO X hF
    · have hF := hF.trans (if_pos c_101)
      have hO := hO.1 c_101
      refine lv_iconst (v := (0 : Int32)) hx hb dX11_one_104 (by decide) ?_
      refine lv_goto (tgt := 114) hx hb dX11_one_105 (by decide) ?_
      exact k_m_one_b114 g C st (0 : Int32) H locs ls hI (lv_sub hl [1] rfl) hO X hF
  · have hF := hF.trans (if_pos c_77)
    have hO := hO.1 c_77
    refine lv_aload_n hx hb dX11_one_80 rfl (lv_at hl 0 rfl) ?_
    refine lv_iconst (v := (2 : Int32)) hx hb dX11_one_81 (by decide) ?_
    refine lv_iconst (v := (3 : Int32)) hx hb dX11_one_82 (by decide) ?_
    refine lv_bipush (v := (12 : Int32)) hx hb dX11_one_83 (by decide) ?_
    refine lv_iconst (v := (4 : Int32)) hx hb dX11_one_85 (by decide) ?_
    have hq_86_0 := hO.1
    have hO := hO.2
    refine cx_Vi (As := [.int (2 : Int32), .int (3 : Int32), .int (12 : Int32), .int (4 : Int32)]) (rest := []) C (c_m_trap l g st (2 : Int32) (3 : Int32) (12 : Int32) (4 : Int32) hq_86_0) (cwV 4 hts (gd_V _ mw765 mw766 mw767 mw3 mw768) rfl rfl rfl yd_yX11_trap ⟨Nat.le_of_ble_eq_true rfl, Nat.le_of_ble_eq_true rfl⟩) (va_recv hK hI.1 (ci := 11) (q0 := 0) rfl rfl) hI rfl hl.1 rfl (Nat.le_of_ble_eq_true rfl) dX11_one_86 (fun H locs hI => ?_)
    exact cx_iret C hI (congrArg Prod.fst hF) (congrArg Prod.snd hF) dX11_one_89
def m_one_b38 (st : CS) : CS × Int32 := (if ((m_irqLine st) = 0) then (m_one_b64 st ) else (if ((m_is st (27 : Int32)) = 0) then ((m_trap st (5 : Int32) (2 : Int32) (24 : Int32) (4 : Int32)).1, (m_trap st (5 : Int32) (2 : Int32) (24 : Int32) (4 : Int32)).2) else (m_one_b64 st )))
def o_m_one_b38 (st : CS) : Prop := ((((m_irqLine st) = 0) → (o_m_one_b64 st )) ∧ (¬ ((m_irqLine st) = 0) → ((((m_is st (27 : Int32)) = 0) → ((o_m_trap st (5 : Int32) (2 : Int32) (24 : Int32) (4 : Int32)) ∧ True)) ∧ (¬ ((m_is st (27 : Int32)) = 0) → (o_m_one_b64 st )))))
set_option maxHeartbeats 4000000 in
set_option maxRecDepth 100000 in
theorem k_m_one_b38 {p : Program} {l : Launch} {e : Env} {s : State} {m : MethodId} {args : Array Value} {below : List Frame} {meth : Method} {c : Code} {A : Nat → Prop} (g : Gm) (C : cX p s m args meth c A cX11_one (some .int) 9 RX11 wq_X11_one (gD g) vwCl (mty g) (mz g)) (st : CS) (H : Heap) (locs : List Loc) (ls : Array Slot) (hI : cI (gD g) vwCl (mw g) A s st H locs) (hl : lv_has ls 9 [(0, .ref (gad g 0))]) (hO : o_m_one_b38 st ) (X : CS × Int32) (hF : X = m_one_b38 st ) : W p l e rm_m_one s m args below meth c H locs 0 0 (MQ below (cQi (gD g) vwCl (mty g) (mw g) A X.1 X.2) args s 0 0 A) (F0 m 38 ls []) := by
  obtain ⟨hx, hb, hr, hml, hown, hts, hlocks, hK, hA, hZ, hzo⟩ := id C
  unfold m_one_b38 at hF
  unfold o_m_one_b38 at hO
  refine lv_aload_n hx hb dX11_one_38 rfl (lv_at hl 0 rfl) ?_
  refine cx_Vi (As := []) (rest := []) C (c_m_irqLine l g st ) (cwV 0 hts (gd_V _ mw784 mw785 mw786 mw3 mw787) rfl rfl rfl yd_yX11_irqLine ⟨Nat.le_of_ble_eq_true rfl, Nat.le_of_ble_eq_true rfl⟩) (va_recv hK hI.1 (ci := 11) (q0 := 0) rfl rfl) hI rfl hl.1 rfl (Nat.le_of_ble_eq_true rfl) dX11_one_39 (fun H locs hI => ?_)
  refine lv_if_eq (tgt := 64) hx hb dX11_one_42 (by decide) (fun c_42 => ?_) (fun c_42 => ?_)
  · have hF := hF.trans (if_pos c_42)
    have hO := hO.1 c_42
    exact k_m_one_b64 g C st  H locs ls hI (lv_sub hl [0] rfl) hO X hF
  · have hF := hF.trans (if_neg c_42)
    have hO := hO.2 c_42
    refine lv_aload_n hx hb dX11_one_45 rfl (lv_at hl 0 rfl) ?_
    refine lv_bipush (v := (27 : Int32)) hx hb dX11_one_46 (by decide) ?_
    refine cx_Vi (As := [.int (27 : Int32)]) (rest := []) C (c_m_is l g st (27 : Int32)) (cwV 1 hts (gd_V _ mw761 mw762 mw763 mw3 mw764) rfl rfl rfl yd_yX11_is ⟨Nat.le_of_ble_eq_true rfl, Nat.le_of_ble_eq_true rfl⟩) (va_recv hK hI.1 (ci := 11) (q0 := 0) rfl rfl) hI rfl hl.1 rfl (Nat.le_of_ble_eq_true rfl) dX11_one_48 (fun H locs hI => ?_)
    refine lv_if_ne (tgt := 64) hx hb dX11_one_51 (by decide) (fun c_51 => ?_) (fun c_51 => ?_)
    · have hF := hF.trans (if_neg c_51)
      have hO := hO.2 c_51
      exact k_m_one_b64 g C st  H locs ls hI (lv_sub hl [0] rfl) hO X hF
    · have hF := hF.trans (if_pos c_51)
      have hO := hO.1 c_51
      refine lv_aload_n hx hb dX11_one_54 rfl (lv_at hl 0 rfl) ?_
      refine lv_iconst (v := (5 : Int32)) hx hb dX11_one_55 (by decide) ?_
      refine lv_iconst (v := (2 : Int32)) hx hb dX11_one_56 (by decide) ?_
      refine lv_bipush (v := (24 : Int32)) hx hb dX11_one_57 (by decide) ?_
      refine lv_iconst (v := (4 : Int32)) hx hb dX11_one_59 (by decide) ?_
      have hq_60_0 := hO.1
      have hO := hO.2
      refine cx_Vi (As := [.int (5 : Int32), .int (2 : Int32), .int (24 : Int32), .int (4 : Int32)]) (rest := []) C (c_m_trap l g st (5 : Int32) (2 : Int32) (24 : Int32) (4 : Int32) hq_60_0) (cwV 4 hts (gd_V _ mw765 mw766 mw767 mw3 mw768) rfl rfl rfl yd_yX11_trap ⟨Nat.le_of_ble_eq_true rfl, Nat.le_of_ble_eq_true rfl⟩) (va_recv hK hI.1 (ci := 11) (q0 := 0) rfl rfl) hI rfl hl.1 rfl (Nat.le_of_ble_eq_true rfl) dX11_one_60 (fun H locs hI => ?_)
      exact cx_iret C hI (congrArg Prod.fst hF) (congrArg Prod.snd hF) dX11_one_63
def m_one (st : CS) : CS × Int32 := (if ((m_fiqLine (sI st 2 ((gI st 1) &&& (67108860 : Int32)))) = 0) then (m_one_b38 (sI st 2 ((gI st 1) &&& (67108860 : Int32))) ) else (if ((m_is (sI st 2 ((gI st 1) &&& (67108860 : Int32))) (26 : Int32)) = 0) then ((m_trap (sI st 2 ((gI st 1) &&& (67108860 : Int32))) (6 : Int32) (1 : Int32) (28 : Int32) (4 : Int32)).1, (m_trap (sI st 2 ((gI st 1) &&& (67108860 : Int32))) (6 : Int32) (1 : Int32) (28 : Int32) (4 : Int32)).2) else (m_one_b38 (sI st 2 ((gI st 1) &&& (67108860 : Int32))) )))
def o_m_one (st : CS) : Prop := ((((m_fiqLine (sI st 2 ((gI st 1) &&& (67108860 : Int32)))) = 0) → (o_m_one_b38 (sI st 2 ((gI st 1) &&& (67108860 : Int32))) )) ∧ (¬ ((m_fiqLine (sI st 2 ((gI st 1) &&& (67108860 : Int32)))) = 0) → ((((m_is (sI st 2 ((gI st 1) &&& (67108860 : Int32))) (26 : Int32)) = 0) → ((o_m_trap (sI st 2 ((gI st 1) &&& (67108860 : Int32))) (6 : Int32) (1 : Int32) (28 : Int32) (4 : Int32)) ∧ True)) ∧ (¬ ((m_is (sI st 2 ((gI st 1) &&& (67108860 : Int32))) (26 : Int32)) = 0) → (o_m_one_b38 (sI st 2 ((gI st 1) &&& (67108860 : Int32))) )))))
set_option maxHeartbeats 4000000 in
set_option maxRecDepth 100000 in
theorem k_m_one {p : Program} {l : Launch} {e : Env} {s : State} {m : MethodId} {args : Array Value} {below : List Frame} {meth : Method} {c : Code} {A : Nat → Prop} (g : Gm) (C : cX p s m args meth c A cX11_one (some .int) 9 RX11 wq_X11_one (gD g) vwCl (mty g) (mz g)) (st : CS) (H : Heap) (locs : List Loc) (ls : Array Slot) (hI : cI (gD g) vwCl (mw g) A s st H locs) (hl : lv_has ls 9 [(0, .ref (gad g 0))]) (hO : o_m_one st) (X : CS × Int32) (hF : X = m_one st) : W p l e rm_m_one s m args below meth c H locs 0 0 (MQ below (cQi (gD g) vwCl (mty g) (mw g) A X.1 X.2) args s 0 0 A) (F0 m 0 ls []) := by
  obtain ⟨hx, hb, hr, hml, hown, hts, hlocks, hK, hA, hZ, hzo⟩ := id C
  unfold m_one at hF
  unfold o_m_one at hO
  refine lv_aload_n hx hb dX11_one_0 rfl (lv_at hl 0 rfl) ?_
  refine lv_aload_n hx hb dX11_one_1 rfl (lv_at hl 0 rfl) ?_
  refine va_get (D := gD g) (ci := 11) (C := RX11) (T := TX11) (N := 50) (v := .int (gI st 1)) hx hb hts (fun w h => List.mem_cons_of_mem _ (isX110 w h)) hown hK hI.1 0 rfl rfl 5 (by decide) (hts _ (List.mem_cons_of_mem _ mw210)) (fun _ h9 => h9) rfl dX11_one_2 ?_
  refine lv_ldc (v := (67108860 : Int32)) hx hb hown (hts _ (List.mem_cons_of_mem _ mw748)) dX11_one_5 ?_
  refine lv_iand hx hb dX11_one_7 ?_
  refine va_put (D := gD g) (ci := 11) (C := RX11) (T := TX11) (N := 50) (v := .int ((gI st 1) &&& (67108860 : Int32))) (ty := .int) hx hb hts (fun w h => List.mem_cons_of_mem _ (isX110 w h)) tyX11 tyX11_ok nmX11 hown hK hI.1 hI.2.1 hI.2.2 0 rfl rfl 6 (by decide) (hts _ (List.mem_cons_of_mem _ mw749)) (fun _ h9 => h9) rfl (by decide +kernel) rfl rfl (Nat.le_of_ble_eq_true rfl) dX11_one_8 (fun H locs hP hD hS => ?_)
  have hI : cI (gD g) vwCl (mw g) A s (sI st 2 ((gI st 1) &&& (67108860 : Int32))) H locs := ⟨hP, hD, hS⟩
  refine lv_aload_n hx hb dX11_one_11 rfl (lv_at hl 0 rfl) ?_
  refine cx_Vi (As := []) (rest := []) C (c_m_fiqLine l g (sI st 2 ((gI st 1) &&& (67108860 : Int32))) ) (cwV 0 hts (gd_V _ mw753 mw754 mw755 mw3 mw756) rfl rfl rfl yd_yX11_fiqLine ⟨Nat.le_of_ble_eq_true rfl, Nat.le_of_ble_eq_true rfl⟩) (va_recv hK hI.1 (ci := 11) (q0 := 0) rfl rfl) hI rfl hl.1 rfl (Nat.le_of_ble_eq_true rfl) dX11_one_12 (fun H locs hI => ?_)
  refine lv_if_eq (tgt := 38) hx hb dX11_one_15 (by decide) (fun c_15 => ?_) (fun c_15 => ?_)
  · have hF := hF.trans (if_pos c_15)
    have hO := hO.1 c_15
    exact k_m_one_b38 g C (sI st 2 ((gI st 1) &&& (67108860 : Int32)))  H locs ls hI (lv_sub hl [0] rfl) hO X hF
  · have hF := hF.trans (if_neg c_15)
    have hO := hO.2 c_15
    refine lv_aload_n hx hb dX11_one_18 rfl (lv_at hl 0 rfl) ?_
    refine lv_bipush (v := (26 : Int32)) hx hb dX11_one_19 (by decide) ?_
    refine cx_Vi (As := [.int (26 : Int32)]) (rest := []) C (c_m_is l g (sI st 2 ((gI st 1) &&& (67108860 : Int32))) (26 : Int32)) (cwV 1 hts (gd_V _ mw761 mw762 mw763 mw3 mw764) rfl rfl rfl yd_yX11_is ⟨Nat.le_of_ble_eq_true rfl, Nat.le_of_ble_eq_true rfl⟩) (va_recv hK hI.1 (ci := 11) (q0 := 0) rfl rfl) hI rfl hl.1 rfl (Nat.le_of_ble_eq_true rfl) dX11_one_21 (fun H locs hI => ?_)
    refine lv_if_ne (tgt := 38) hx hb dX11_one_24 (by decide) (fun c_24 => ?_) (fun c_24 => ?_)
    · have hF := hF.trans (if_neg c_24)
      have hO := hO.2 c_24
      exact k_m_one_b38 g C (sI st 2 ((gI st 1) &&& (67108860 : Int32)))  H locs ls hI (lv_sub hl [0] rfl) hO X hF
    · have hF := hF.trans (if_pos c_24)
      have hO := hO.1 c_24
      refine lv_aload_n hx hb dX11_one_27 rfl (lv_at hl 0 rfl) ?_
      refine lv_bipush (v := (6 : Int32)) hx hb dX11_one_28 (by decide) ?_
      refine lv_iconst (v := (1 : Int32)) hx hb dX11_one_30 (by decide) ?_
      refine lv_bipush (v := (28 : Int32)) hx hb dX11_one_31 (by decide) ?_
      refine lv_iconst (v := (4 : Int32)) hx hb dX11_one_33 (by decide) ?_
      have hq_34_0 := hO.1
      have hO := hO.2
      refine cx_Vi (As := [.int (6 : Int32), .int (1 : Int32), .int (28 : Int32), .int (4 : Int32)]) (rest := []) C (c_m_trap l g (sI st 2 ((gI st 1) &&& (67108860 : Int32))) (6 : Int32) (1 : Int32) (28 : Int32) (4 : Int32) hq_34_0) (cwV 4 hts (gd_V _ mw765 mw766 mw767 mw3 mw768) rfl rfl rfl yd_yX11_trap ⟨Nat.le_of_ble_eq_true rfl, Nat.le_of_ble_eq_true rfl⟩) (va_recv hK hI.1 (ci := 11) (q0 := 0) rfl rfl) hI rfl hl.1 rfl (Nat.le_of_ble_eq_true rfl) dX11_one_34 (fun H locs hI => ?_)
      exact cx_iret C hI (congrArg Prod.fst hF) (congrArg Prod.snd hF) dX11_one_37
set_option maxHeartbeats 4000000 in
set_option maxRecDepth 100000 in
theorem c_m_one (l : Launch) (g : Gm) (st : CS) (hO : o_m_one st) : Mi l yX11_one wq_X11_one rm_m_one (gD g) vwCl (mty g) (mw g) (mz g) [.ref (gad g 0)] st (m_one st).1 (m_one st).2 := by
  intro sz
  refine Met.ofW (cc := cX11_one) (maxL := 9) (ret := (some .int)) (by decide) rfl ?_
  intro p e s m args below meth c s₁ B hml hv
  obtain ⟨rfl, hsz, hP, hK, hD0, hZ⟩ := hv
  subst hsz
  have hl := lv_entry ([.ref (gad g 0)]) (n := 9) (Nat.le_of_ble_eq_true rfl)
  rw [lg_entry_eq]
  generalize (lg_sl ([.ref (gad g 0)]) ++ List.replicate (9 - (lg_sl ([.ref (gad g 0)])).length) Slot.unset).toArray = ls at hl ⊢
  exact k_m_one g ⟨B.exec, B.bytes, B.returns, hml, findClass_of_methodNamed B.named, atoms_spec (ws := wq_X11_one) B.pre, B.notSynchronized, hK, fun q h => Or.inr h, hZ, mz_ok g⟩ st  _ _ ls ⟨hP, hD0.self, va_S.rf⟩ hl hO _ rfl
