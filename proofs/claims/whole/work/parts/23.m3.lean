abbrev wq_X11_paint : List Cond := .code yX11_paint cX11_paint 7 none :: wAll
theorem yd_yX11_paint : yX11_paint.cls = RX11 ∧ yX11_paint.cls ≠ "java/lang/invoke/MethodHandle" ∧ yX11_paint.cls ≠ "java/lang/invoke/VarHandle" ∧ (parseMethodDescriptor yX11_paint.desc).map (fun d => d.parameters.length) = some 0 := by decide +kernel
abbrev rm_m_paint : Room := { frames := 0, cells := 0, slots := 0, locals := 0 }
def m_paint_b174 (rec34 : CS → Int32 → Int32 → Int32 → Int32 → Option (CS)) (st : CS) (x1 : Int32) (x2 : Int32) (x3 : Int32) (x4 : Int32) : Option (CS) := (rec34 st x1 x2 x3 (x4 + (1 : Int32)))
def o_m_paint_b174 (orec34 : CS → Int32 → Int32 → Int32 → Int32 → Prop) (st : CS) (x1 : Int32) (x2 : Int32) (x3 : Int32) (x4 : Int32) : Prop := (orec34 st x1 x2 x3 (x4 + (1 : Int32)))
set_option maxHeartbeats 4000000 in
set_option maxRecDepth 100000 in
theorem k_m_paint_b174 {p : Program} {l : Launch} {e : Env} {s : State} {m : MethodId} {args : Array Value} {below : List Frame} {meth : Method} {c : Code} {A : Nat → Prop} (g : Gm) (C : cX p s m args meth c A cX11_paint none 7 RX11 wq_X11_paint (gD g) vwCl (mty g) (mz g)) (rec34 : CS → Int32 → Int32 → Int32 → Int32 → Option (CS)) (orec34 : CS → Int32 → Int32 → Int32 → Int32 → Prop) (hrec34 : ∀ (st : CS) (x1 : Int32) (x2 : Int32) (x3 : Int32) (x4 : Int32) (H : Heap) (locs : List Loc) (ls : Array Slot), cI (gD g) vwCl (mw g) A s st H locs → lv_has ls 7 [(0, .ref (gad g 0)), (1, .int x1), (2, .int x2), (3, .int x3), (4, .int x4)] → orec34 st x1 x2 x3 x4 → ∀ (X : CS), some X = rec34 st x1 x2 x3 x4 → W p l e rm_m_paint s m args below meth c H locs 0 0 (MQ below (cQv (gD g) vwCl (mty g) (mw g) A X) args s 0 0 A) (F0 m 34 ls [])) (st : CS) (x1 : Int32) (x2 : Int32) (x3 : Int32) (x4 : Int32) (H : Heap) (locs : List Loc) (ls : Array Slot) (hI : cI (gD g) vwCl (mw g) A s st H locs) (hl : lv_has ls 7 [(0, .ref (gad g 0)), (1, .int x1), (2, .int x2), (3, .int x3), (4, .int x4)]) (hO : o_m_paint_b174 orec34 st x1 x2 x3 x4) (X : CS) (hF : some X = m_paint_b174 rec34 st x1 x2 x3 x4) : W p l e rm_m_paint s m args below meth c H locs 0 0 (MQ below (cQv (gD g) vwCl (mty g) (mw g) A X) args s 0 0 A) (F0 m 174 ls []) := by
  obtain ⟨hx, hb, hr, hml, hown, hts, hlocks, hK, hA, hZ, hzo⟩ := id C
  unfold m_paint_b174 at hF
  unfold o_m_paint_b174 at hO
  refine lv_iinc (v := (x4 + (1 : Int32))) (lv' := [(4, .int (x4 + (1 : Int32))), (0, .ref (gad g 0)), (1, .int x1), (2, .int x2), (3, .int x3)]) hx hb dX11_paint_174 hl (k := 4) rfl rfl (by decide) rfl (fun ls hl => ?_)
  refine lv_goto (tgt := 34) hx hb dX11_paint_177 (by decide) ?_
  exact hrec34 st x1 x2 x3 (x4 + (1 : Int32)) H locs ls hI (lv_sub hl [1, 2, 3, 4, 0] rfl) hO X hF
def m_paint_b173 (rec34 : CS → Int32 → Int32 → Int32 → Int32 → Option (CS)) (st : CS) (x1 : Int32) (x2 : Int32) (x3 : Int32) (x4 : Int32) (y1 : Int32) (y0 : Int32) : Option (CS) := (m_paint_b174 rec34 (sA st 11 (upd (gA st 11) y1.toNatClampNeg y0)) x1 x2 x3 x4)
def o_m_paint_b173 (orec34 : CS → Int32 → Int32 → Int32 → Int32 → Prop) (st : CS) (x1 : Int32) (x2 : Int32) (x3 : Int32) (x4 : Int32) (y1 : Int32) (y0 : Int32) : Prop := (vp_in y1 2048 ∧ (o_m_paint_b174 orec34 (sA st 11 (upd (gA st 11) y1.toNatClampNeg y0)) x1 x2 x3 x4))
set_option maxHeartbeats 4000000 in
set_option maxRecDepth 100000 in
theorem k_m_paint_b173 {p : Program} {l : Launch} {e : Env} {s : State} {m : MethodId} {args : Array Value} {below : List Frame} {meth : Method} {c : Code} {A : Nat → Prop} (g : Gm) (C : cX p s m args meth c A cX11_paint none 7 RX11 wq_X11_paint (gD g) vwCl (mty g) (mz g)) (rec34 : CS → Int32 → Int32 → Int32 → Int32 → Option (CS)) (orec34 : CS → Int32 → Int32 → Int32 → Int32 → Prop) (hrec34 : ∀ (st : CS) (x1 : Int32) (x2 : Int32) (x3 : Int32) (x4 : Int32) (H : Heap) (locs : List Loc) (ls : Array Slot), cI (gD g) vwCl (mw g) A s st H locs → lv_has ls 7 [(0, .ref (gad g 0)), (1, .int x1), (2, .int x2), (3, .int x3), (4, .int x4)] → orec34 st x1 x2 x3 x4 → ∀ (X : CS), some X = rec34 st x1 x2 x3 x4 → W p l e rm_m_paint s m args below meth c H locs 0 0 (MQ below (cQv (gD g) vwCl (mty g) (mw g) A X) args s 0 0 A) (F0 m 34 ls [])) (st : CS) (x1 : Int32) (x2 : Int32) (x3 : Int32) (x4 : Int32) (y1 : Int32) (y0 : Int32) (H : Heap) (locs : List Loc) (ls : Array Slot) (hI : cI (gD g) vwCl (mw g) A s st H locs) (hl : lv_has ls 7 [(0, .ref (gad g 0)), (1, .int x1), (2, .int x2), (3, .int x3), (4, .int x4)]) (hO : o_m_paint_b173 orec34 st x1 x2 x3 x4 y1 y0) (X : CS) (hF : some X = m_paint_b173 rec34 st x1 x2 x3 x4 y1 y0) : W p l e rm_m_paint s m args below meth c H locs 0 0 (MQ below (cQv (gD g) vwCl (mty g) (mw g) A X) args s 0 0 A) (F0 m 173 ls [.int y0, .int y1, .ref (gad g 12)]) := by
  obtain ⟨hx, hb, hr, hml, hown, hts, hlocks, hK, hA, hZ, hzo⟩ := id C
  unfold m_paint_b173 at hF
  unfold o_m_paint_b173 at hO
  have hq_173_0 := hO.1
  have hO := hO.2
  refine va_iast (f := (gA st 11)) hx hb hK hI.1 hI.2.1 hI.2.2 12 11 rfl rfl hq_173_0 dX11_paint_173 (fun H locs hP hD hS => ?_)
  have hI : cI (gD g) vwCl (mw g) A s (sA st 11 (upd (gA st 11) y1.toNatClampNeg y0)) H locs := ⟨hP, hD, hS⟩
  exact k_m_paint_b174 g C rec34 orec34 hrec34 (sA st 11 (upd (gA st 11) y1.toNatClampNeg y0)) x1 x2 x3 x4 H locs ls hI (lv_sub hl [0, 1, 2, 3, 4] rfl) hO X hF
def m_paint_b127 (rec34 : CS → Int32 → Int32 → Int32 → Int32 → Option (CS)) (rec48 : CS → Int32 → Int32 → Int32 → Int32 → Int32 → Int32 → Option (CS)) (st : CS) (x1 : Int32) (x2 : Int32) (x3 : Int32) (x4 : Int32) (x5 : Int32) (x6 : Int32) : Option (CS) := (rec48 st x1 x2 x3 x4 x5 (x6 + (1 : Int32)))
def o_m_paint_b127 (orec34 : CS → Int32 → Int32 → Int32 → Int32 → Prop) (orec48 : CS → Int32 → Int32 → Int32 → Int32 → Int32 → Int32 → Prop) (st : CS) (x1 : Int32) (x2 : Int32) (x3 : Int32) (x4 : Int32) (x5 : Int32) (x6 : Int32) : Prop := (orec48 st x1 x2 x3 x4 x5 (x6 + (1 : Int32)))
set_option maxHeartbeats 4000000 in
set_option maxRecDepth 100000 in
theorem k_m_paint_b127 {p : Program} {l : Launch} {e : Env} {s : State} {m : MethodId} {args : Array Value} {below : List Frame} {meth : Method} {c : Code} {A : Nat → Prop} (g : Gm) (C : cX p s m args meth c A cX11_paint none 7 RX11 wq_X11_paint (gD g) vwCl (mty g) (mz g)) (rec34 : CS → Int32 → Int32 → Int32 → Int32 → Option (CS)) (orec34 : CS → Int32 → Int32 → Int32 → Int32 → Prop) (hrec34 : ∀ (st : CS) (x1 : Int32) (x2 : Int32) (x3 : Int32) (x4 : Int32) (H : Heap) (locs : List Loc) (ls : Array Slot), cI (gD g) vwCl (mw g) A s st H locs → lv_has ls 7 [(0, .ref (gad g 0)), (1, .int x1), (2, .int x2), (3, .int x3), (4, .int x4)] → orec34 st x1 x2 x3 x4 → ∀ (X : CS), some X = rec34 st x1 x2 x3 x4 → W p l e rm_m_paint s m args below meth c H locs 0 0 (MQ below (cQv (gD g) vwCl (mty g) (mw g) A X) args s 0 0 A) (F0 m 34 ls [])) (rec48 : CS → Int32 → Int32 → Int32 → Int32 → Int32 → Int32 → Option (CS)) (orec48 : CS → Int32 → Int32 → Int32 → Int32 → Int32 → Int32 → Prop) (hrec48 : ∀ (st : CS) (x1 : Int32) (x2 : Int32) (x3 : Int32) (x4 : Int32) (x5 : Int32) (x6 : Int32) (H : Heap) (locs : List Loc) (ls : Array Slot), cI (gD g) vwCl (mw g) A s st H locs → lv_has ls 7 [(0, .ref (gad g 0)), (1, .int x1), (2, .int x2), (3, .int x3), (4, .int x4), (5, .int x5), (6, .int x6)] → orec48 st x1 x2 x3 x4 x5 x6 → ∀ (X : CS), some X = rec48 st x1 x2 x3 x4 x5 x6 → W p l e rm_m_paint s m args below meth c H locs 0 0 (MQ below (cQv (gD g) vwCl (mty g) (mw g) A X) args s 0 0 A) (F0 m 48 ls [])) (st : CS) (x1 : Int32) (x2 : Int32) (x3 : Int32) (x4 : Int32) (x5 : Int32) (x6 : Int32) (H : Heap) (locs : List Loc) (ls : Array Slot) (hI : cI (gD g) vwCl (mw g) A s st H locs) (hl : lv_has ls 7 [(0, .ref (gad g 0)), (1, .int x1), (2, .int x2), (3, .int x3), (4, .int x4), (5, .int x5), (6, .int x6)]) (hO : o_m_paint_b127 orec34 orec48 st x1 x2 x3 x4 x5 x6) (X : CS) (hF : some X = m_paint_b127 rec34 rec48 st x1 x2 x3 x4 x5 x6) : W p l e rm_m_paint s m args below meth c H locs 0 0 (MQ below (cQv (gD g) vwCl (mty g) (mw g) A X) args s 0 0 A) (F0 m 127 ls []) := by
  obtain ⟨hx, hb, hr, hml, hown, hts, hlocks, hK, hA, hZ, hzo⟩ := id C
  unfold m_paint_b127 at hF
  unfold o_m_paint_b127 at hO
  refine lv_iinc (v := (x6 + (1 : Int32))) (lv' := [(6, .int (x6 + (1 : Int32))), (0, .ref (gad g 0)), (1, .int x1), (2, .int x2), (3, .int x3), (4, .int x4), (5, .int x5)]) hx hb dX11_paint_127 hl (k := 6) rfl rfl (by decide) rfl (fun ls hl => ?_)
  refine lv_goto (tgt := 48) hx hb dX11_paint_130 (by decide) ?_
  exact hrec48 st x1 x2 x3 x4 x5 (x6 + (1 : Int32)) H locs ls hI (lv_sub hl [1, 2, 3, 4, 5, 6, 0] rfl) hO X hF
def m_paint_b126 (rec34 : CS → Int32 → Int32 → Int32 → Int32 → Option (CS)) (rec48 : CS → Int32 → Int32 → Int32 → Int32 → Int32 → Int32 → Option (CS)) (st : CS) (x2 : Int32) (x3 : Int32) (x4 : Int32) (x5 : Int32) (x6 : Int32) (y0 : Int32) : Option (CS) := (m_paint_b127 rec34 rec48 st y0 x2 x3 x4 x5 x6)
def o_m_paint_b126 (orec34 : CS → Int32 → Int32 → Int32 → Int32 → Prop) (orec48 : CS → Int32 → Int32 → Int32 → Int32 → Int32 → Int32 → Prop) (st : CS) (x2 : Int32) (x3 : Int32) (x4 : Int32) (x5 : Int32) (x6 : Int32) (y0 : Int32) : Prop := (o_m_paint_b127 orec34 orec48 st y0 x2 x3 x4 x5 x6)
set_option maxHeartbeats 4000000 in
set_option maxRecDepth 100000 in
theorem k_m_paint_b126 {p : Program} {l : Launch} {e : Env} {s : State} {m : MethodId} {args : Array Value} {below : List Frame} {meth : Method} {c : Code} {A : Nat → Prop} (g : Gm) (C : cX p s m args meth c A cX11_paint none 7 RX11 wq_X11_paint (gD g) vwCl (mty g) (mz g)) (rec34 : CS → Int32 → Int32 → Int32 → Int32 → Option (CS)) (orec34 : CS → Int32 → Int32 → Int32 → Int32 → Prop) (hrec34 : ∀ (st : CS) (x1 : Int32) (x2 : Int32) (x3 : Int32) (x4 : Int32) (H : Heap) (locs : List Loc) (ls : Array Slot), cI (gD g) vwCl (mw g) A s st H locs → lv_has ls 7 [(0, .ref (gad g 0)), (1, .int x1), (2, .int x2), (3, .int x3), (4, .int x4)] → orec34 st x1 x2 x3 x4 → ∀ (X : CS), some X = rec34 st x1 x2 x3 x4 → W p l e rm_m_paint s m args below meth c H locs 0 0 (MQ below (cQv (gD g) vwCl (mty g) (mw g) A X) args s 0 0 A) (F0 m 34 ls [])) (rec48 : CS → Int32 → Int32 → Int32 → Int32 → Int32 → Int32 → Option (CS)) (orec48 : CS → Int32 → Int32 → Int32 → Int32 → Int32 → Int32 → Prop) (hrec48 : ∀ (st : CS) (x1 : Int32) (x2 : Int32) (x3 : Int32) (x4 : Int32) (x5 : Int32) (x6 : Int32) (H : Heap) (locs : List Loc) (ls : Array Slot), cI (gD g) vwCl (mw g) A s st H locs → lv_has ls 7 [(0, .ref (gad g 0)), (1, .int x1), (2, .int x2), (3, .int x3), (4, .int x4), (5, .int x5), (6, .int x6)] → orec48 st x1 x2 x3 x4 x5 x6 → ∀ (X : CS), some X = rec48 st x1 x2 x3 x4 x5 x6 → W p l e rm_m_paint s m args below meth c H locs 0 0 (MQ below (cQv (gD g) vwCl (mty g) (mw g) A X) args s 0 0 A) (F0 m 48 ls [])) (st : CS) (x2 : Int32) (x3 : Int32) (x4 : Int32) (x5 : Int32) (x6 : Int32) (y0 : Int32) (H : Heap) (locs : List Loc) (ls : Array Slot) (hI : cI (gD g) vwCl (mw g) A s st H locs) (hl : lv_has ls 7 [(0, .ref (gad g 0)), (2, .int x2), (3, .int x3), (4, .int x4), (5, .int x5), (6, .int x6)]) (hO : o_m_paint_b126 orec34 orec48 st x2 x3 x4 x5 x6 y0) (X : CS) (hF : some X = m_paint_b126 rec34 rec48 st x2 x3 x4 x5 x6 y0) : W p l e rm_m_paint s m args below meth c H locs 0 0 (MQ below (cQv (gD g) vwCl (mty g) (mw g) A X) args s 0 0 A) (F0 m 126 ls [.int y0]) := by
  obtain ⟨hx, hb, hr, hml, hown, hts, hlocks, hK, hA, hZ, hzo⟩ := id C
  unfold m_paint_b126 at hF
  unfold o_m_paint_b126 at hO
  refine lv_istore_n (lv' := [(1, .int y0), (0, .ref (gad g 0)), (2, .int x2), (3, .int x3), (4, .int x4), (5, .int x5), (6, .int x6)]) hx hb dX11_paint_126 rfl hl (by decide) rfl (fun ls hl => ?_)
  exact k_m_paint_b127 g C rec34 orec34 hrec34 rec48 orec48 hrec48 st y0 x2 x3 x4 x5 x6 H locs ls hI (lv_sub hl [1, 0, 2, 3, 4, 5, 6] rfl) hO X hF
def m_paint_b48 (rec34 : CS → Int32 → Int32 → Int32 → Int32 → Option (CS)) : Nat → CS → Int32 → Int32 → Int32 → Int32 → Int32 → Int32 → Option (CS)
  | 0, _, _, _, _, _, _, _ => none
  | n + 1, st, x1, x2, x3, x4, x5, x6 => (if (((1 : Int32) <<< ((gI st 6) &&& 31)) ≤ x6) then (if ((gI st 7) = 0) then (m_paint_b173 rec34 st x1 x2 x3 x4 x4 (gI st 5)) else (m_paint_b173 rec34 st x1 x2 x3 x4 x4 (((gA st 9) (x5 &&& (15 : Int32)).toNatClampNeg) ^^^ ((x5 / (16 : Int32)) * (256 : Int32))))) else (if ((8 : Int32) ≤ (x3 + (1 : Int32))) then (if (x1 = x2) then (m_paint_b126 rec34 (m_paint_b48 rec34 n) st x2 (0 : Int32) x4 (x5 ||| (((ushr ((gA st 5) (x1 >>> ((2 : Int32) &&& 31)).toNatClampNeg) (((8 : Int32) * (x1 &&& (3 : Int32))) + x3)) &&& (1 : Int32)) <<< (x6 &&& 31))) x6 (((16 : Int32) * ((gA st 10) (1 : Int32).toNatClampNeg)) &&& (65535 : Int32))) else (m_paint_b126 rec34 (m_paint_b48 rec34 n) st x2 (0 : Int32) x4 (x5 ||| (((ushr ((gA st 5) (x1 >>> ((2 : Int32) &&& 31)).toNatClampNeg) (((8 : Int32) * (x1 &&& (3 : Int32))) + x3)) &&& (1 : Int32)) <<< (x6 &&& 31))) x6 ((x1 + (1 : Int32)) &&& (65535 : Int32)))) else (m_paint_b127 rec34 (m_paint_b48 rec34 n) st x1 x2 (x3 + (1 : Int32)) x4 (x5 ||| (((ushr ((gA st 5) (x1 >>> ((2 : Int32) &&& 31)).toNatClampNeg) (((8 : Int32) * (x1 &&& (3 : Int32))) + x3)) &&& (1 : Int32)) <<< (x6 &&& 31))) x6)))
def o_m_paint_b48 (orec34 : CS → Int32 → Int32 → Int32 → Int32 → Prop) : Nat → CS → Int32 → Int32 → Int32 → Int32 → Int32 → Int32 → Prop
  | 0, _, _, _, _, _, _, _ => True
  | n + 1, st, x1, x2, x3, x4, x5, x6 => (((((1 : Int32) <<< ((gI st 6) &&& 31)) ≤ x6) → ((((gI st 7) = 0) → (o_m_paint_b173 orec34 st x1 x2 x3 x4 x4 (gI st 5))) ∧ (¬ ((gI st 7) = 0) → (o_m_paint_b173 orec34 st x1 x2 x3 x4 x4 (((gA st 9) (x5 &&& (15 : Int32)).toNatClampNeg) ^^^ ((x5 / (16 : Int32)) * (256 : Int32))))))) ∧ (¬ (((1 : Int32) <<< ((gI st 6) &&& 31)) ≤ x6) → (vp_in (x1 >>> ((2 : Int32) &&& 31)) 16384 ∧ ((((8 : Int32) ≤ (x3 + (1 : Int32))) → (((x1 = x2) → (o_m_paint_b126 orec34 (o_m_paint_b48 orec34 n) st x2 (0 : Int32) x4 (x5 ||| (((ushr ((gA st 5) (x1 >>> ((2 : Int32) &&& 31)).toNatClampNeg) (((8 : Int32) * (x1 &&& (3 : Int32))) + x3)) &&& (1 : Int32)) <<< (x6 &&& 31))) x6 (((16 : Int32) * ((gA st 10) (1 : Int32).toNatClampNeg)) &&& (65535 : Int32)))) ∧ (¬ (x1 = x2) → (o_m_paint_b126 orec34 (o_m_paint_b48 orec34 n) st x2 (0 : Int32) x4 (x5 ||| (((ushr ((gA st 5) (x1 >>> ((2 : Int32) &&& 31)).toNatClampNeg) (((8 : Int32) * (x1 &&& (3 : Int32))) + x3)) &&& (1 : Int32)) <<< (x6 &&& 31))) x6 ((x1 + (1 : Int32)) &&& (65535 : Int32)))))) ∧ (¬ ((8 : Int32) ≤ (x3 + (1 : Int32))) → (o_m_paint_b127 orec34 (o_m_paint_b48 orec34 n) st x1 x2 (x3 + (1 : Int32)) x4 (x5 ||| (((ushr ((gA st 5) (x1 >>> ((2 : Int32) &&& 31)).toNatClampNeg) (((8 : Int32) * (x1 &&& (3 : Int32))) + x3)) &&& (1 : Int32)) <<< (x6 &&& 31))) x6))))))
set_option maxHeartbeats 4000000 in
set_option maxRecDepth 100000 in
theorem k_m_paint_b48 {p : Program} {l : Launch} {e : Env} {s : State} {m : MethodId} {args : Array Value} {below : List Frame} {meth : Method} {c : Code} {A : Nat → Prop} (g : Gm) (C : cX p s m args meth c A cX11_paint none 7 RX11 wq_X11_paint (gD g) vwCl (mty g) (mz g)) (rec34 : CS → Int32 → Int32 → Int32 → Int32 → Option (CS)) (orec34 : CS → Int32 → Int32 → Int32 → Int32 → Prop) (hrec34 : ∀ (st : CS) (x1 : Int32) (x2 : Int32) (x3 : Int32) (x4 : Int32) (H : Heap) (locs : List Loc) (ls : Array Slot), cI (gD g) vwCl (mw g) A s st H locs → lv_has ls 7 [(0, .ref (gad g 0)), (1, .int x1), (2, .int x2), (3, .int x3), (4, .int x4)] → orec34 st x1 x2 x3 x4 → ∀ (X : CS), some X = rec34 st x1 x2 x3 x4 → W p l e rm_m_paint s m args below meth c H locs 0 0 (MQ below (cQv (gD g) vwCl (mty g) (mw g) A X) args s 0 0 A) (F0 m 34 ls [])) : ∀ (n : Nat) (st : CS) (x1 : Int32) (x2 : Int32) (x3 : Int32) (x4 : Int32) (x5 : Int32) (x6 : Int32) (H : Heap) (locs : List Loc) (ls : Array Slot), cI (gD g) vwCl (mw g) A s st H locs → lv_has ls 7 [(0, .ref (gad g 0)), (1, .int x1), (2, .int x2), (3, .int x3), (4, .int x4), (5, .int x5), (6, .int x6)] → o_m_paint_b48 orec34 n st x1 x2 x3 x4 x5 x6 → ∀ (X : CS), some X = m_paint_b48 rec34 n st x1 x2 x3 x4 x5 x6 → W p l e rm_m_paint s m args below meth c H locs 0 0 (MQ below (cQv (gD g) vwCl (mty g) (mw g) A X) args s 0 0 A) (F0 m 48 ls []) := by
  obtain ⟨hx, hb, hr, hml, hown, hts, hlocks, hK, hA, hZ, hzo⟩ := id C
  intro n
  induction n with
  | zero => intro st x1 x2 x3 x4 x5 x6 H locs ls hI hl hO X hF; exact absurd hF (by simp [m_paint_b48])
  | succ n ih =>
    intro st x1 x2 x3 x4 x5 x6 H locs ls hI hl hO X hF
    rw [m_paint_b48] at hF
    rw [o_m_paint_b48] at hO
    refine lv_iload hx hb dX11_paint_48 (lv_at hl 6 rfl) ?_
    refine lv_iconst (v := (1 : Int32)) hx hb dX11_paint_50 (by decide) ?_
    refine lv_aload_n hx hb dX11_paint_51 rfl (lv_at hl 0 rfl) ?_
    refine va_get (D := gD g) (ci := 11) (C := RX11) (T := TX11) (N := 50) (v := .int (gI st 6)) hx hb hts (fun w h => List.mem_cons_of_mem _ (isX110 w h)) hown hK hI.1 0 rfl rfl 16 (by decide) (hts _ (List.mem_cons_of_mem _ mw212)) (fun _ h9 => h9) rfl dX11_paint_52 ?_
    refine lv_ishl hx hb dX11_paint_55 ?_
    refine lv_icmp_ge (tgt := 133) hx hb dX11_paint_56 (by decide) (fun c_56 => ?_) (fun c_56 => ?_)
    · have hF := hF.trans (if_pos c_56)
      have hO := hO.1 c_56
      refine lv_aload_n hx hb dX11_paint_133 rfl (lv_at hl 0 rfl) ?_
      refine va_get (D := gD g) (ci := 11) (C := RX11) (T := TX11) (N := 50) (v := .ref (gad g 12)) hx hb hts (fun w h => List.mem_cons_of_mem _ (isX110 w h)) hown hK hI.1 0 rfl rfl 20 (by decide) (hts _ (List.mem_cons_of_mem _ mw196)) (fun _ h9 => h9) rfl dX11_paint_134 ?_
      refine lv_iload hx hb dX11_paint_137 (lv_at hl 4 rfl) ?_
      refine lv_aload_n hx hb dX11_paint_139 rfl (lv_at hl 0 rfl) ?_
      refine va_get (D := gD g) (ci := 11) (C := RX11) (T := TX11) (N := 50) (v := .int (gI st 7)) hx hb hts (fun w h => List.mem_cons_of_mem _ (isX110 w h)) hown hK hI.1 0 rfl rfl 17 (by decide) (hts _ (List.mem_cons_of_mem _ mw213)) (fun _ h9 => h9) rfl dX11_paint_140 ?_
      refine lv_if_ne (tgt := 153) hx hb dX11_paint_143 (by decide) (fun c_143 => ?_) (fun c_143 => ?_)
      · have hF := hF.trans (if_neg c_143)
        have hO := hO.2 c_143
        refine lv_aload_n hx hb dX11_paint_153 rfl (lv_at hl 0 rfl) ?_
        refine va_get (D := gD g) (ci := 11) (C := RX11) (T := TX11) (N := 50) (v := .ref (gad g 10)) hx hb hts (fun w h => List.mem_cons_of_mem _ (isX110 w h)) hown hK hI.1 0 rfl rfl 14 (by decide) (hts _ (List.mem_cons_of_mem _ mw194)) (fun _ h9 => h9) rfl dX11_paint_154 ?_
        refine lv_iload hx hb dX11_paint_157 (lv_at hl 5 rfl) ?_
        refine lv_bipush (v := (15 : Int32)) hx hb dX11_paint_159 (by decide) ?_
        refine lv_iand hx hb dX11_paint_161 ?_
        refine va_iald (f := (gA st 9)) hx hb hK hI.1 10 9 rfl rfl (vin_and _ 4 rfl (by decide) (by decide)) dX11_paint_162 ?_
        refine lv_iload hx hb dX11_paint_163 (lv_at hl 5 rfl) ?_
        refine lv_bipush (v := (16 : Int32)) hx hb dX11_paint_165 (by decide) ?_
        refine lv_idiv hx hb dX11_paint_167 (by decide) ?_
        refine lv_sipush (v := (256 : Int32)) hx hb dX11_paint_168 (by decide) ?_
        refine lv_imul hx hb dX11_paint_171 ?_
        refine lv_ixor hx hb dX11_paint_172 ?_
        exact k_m_paint_b173 g C rec34 orec34 hrec34 st x1 x2 x3 x4 x4 (((gA st 9) (x5 &&& (15 : Int32)).toNatClampNeg) ^^^ ((x5 / (16 : Int32)) * (256 : Int32))) H locs ls hI (lv_sub hl [0, 1, 2, 3, 4] rfl) hO X hF
      · have hF := hF.trans (if_pos c_143)
        have hO := hO.1 c_143
        refine lv_aload_n hx hb dX11_paint_146 rfl (lv_at hl 0 rfl) ?_
        refine va_get (D := gD g) (ci := 11) (C := RX11) (T := TX11) (N := 50) (v := .int (gI st 5)) hx hb hts (fun w h => List.mem_cons_of_mem _ (isX110 w h)) hown hK hI.1 0 rfl rfl 15 (by decide) (hts _ (List.mem_cons_of_mem _ mw211)) (fun _ h9 => h9) rfl dX11_paint_147 ?_
        refine lv_goto (tgt := 173) hx hb dX11_paint_150 (by decide) ?_
        exact k_m_paint_b173 g C rec34 orec34 hrec34 st x1 x2 x3 x4 x4 (gI st 5) H locs ls hI (lv_sub hl [0, 1, 2, 3, 4] rfl) hO X hF
    · have hF := hF.trans (if_neg c_56)
      have hO := hO.2 c_56
      refine lv_iload hx hb dX11_paint_59 (lv_at hl 5 rfl) ?_
      refine lv_aload_n hx hb dX11_paint_61 rfl (lv_at hl 0 rfl) ?_
      refine va_get (D := gD g) (ci := 11) (C := RX11) (T := TX11) (N := 50) (v := .ref (gad g 6)) hx hb hts (fun w h => List.mem_cons_of_mem _ (isX110 w h)) hown hK hI.1 0 rfl rfl 10 (by decide) (hts _ (List.mem_cons_of_mem _ mw190)) (fun _ h9 => h9) rfl dX11_paint_62 ?_
      refine lv_iload_n hx hb dX11_paint_65 rfl (lv_at hl 1 rfl) ?_
      refine lv_iconst (v := (2 : Int32)) hx hb dX11_paint_66 (by decide) ?_
      refine lv_ishr hx hb dX11_paint_67 ?_
      have hq_68_0 := hO.1
      have hO := hO.2
      refine va_iald (f := (gA st 5)) hx hb hK hI.1 6 5 rfl rfl hq_68_0 dX11_paint_68 ?_
      refine lv_bipush (v := (8 : Int32)) hx hb dX11_paint_69 (by decide) ?_
      refine lv_iload_n hx hb dX11_paint_71 rfl (lv_at hl 1 rfl) ?_
      refine lv_iconst (v := (3 : Int32)) hx hb dX11_paint_72 (by decide) ?_
      refine lv_iand hx hb dX11_paint_73 ?_
      refine lv_imul hx hb dX11_paint_74 ?_
      refine lv_iload_n hx hb dX11_paint_75 rfl (lv_at hl 3 rfl) ?_
      refine lv_iadd hx hb dX11_paint_76 ?_
      refine lv_iushr (v := (ushr ((gA st 5) (x1 >>> ((2 : Int32) &&& 31)).toNatClampNeg) (((8 : Int32) * (x1 &&& (3 : Int32))) + x3))) hx hb dX11_paint_77 rfl ?_
      refine lv_iconst (v := (1 : Int32)) hx hb dX11_paint_78 (by decide) ?_
      refine lv_iand hx hb dX11_paint_79 ?_
      refine lv_iload hx hb dX11_paint_80 (lv_at hl 6 rfl) ?_
      refine lv_ishl hx hb dX11_paint_82 ?_
      refine lv_ior hx hb dX11_paint_83 ?_
      refine lv_istore (lv' := [(5, .int (x5 ||| (((ushr ((gA st 5) (x1 >>> ((2 : Int32) &&& 31)).toNatClampNeg) (((8 : Int32) * (x1 &&& (3 : Int32))) + x3)) &&& (1 : Int32)) <<< (x6 &&& 31)))), (0, .ref (gad g 0)), (1, .int x1), (2, .int x2), (3, .int x3), (4, .int x4), (6, .int x6)]) hx hb dX11_paint_84 hl (by decide) rfl (fun ls hl => ?_)
      refine lv_iinc (v := (x3 + (1 : Int32))) (lv' := [(3, .int (x3 + (1 : Int32))), (5, .int (x5 ||| (((ushr ((gA st 5) (x1 >>> ((2 : Int32) &&& 31)).toNatClampNeg) (((8 : Int32) * (x1 &&& (3 : Int32))) + x3)) &&& (1 : Int32)) <<< (x6 &&& 31)))), (0, .ref (gad g 0)), (1, .int x1), (2, .int x2), (4, .int x4), (6, .int x6)]) hx hb dX11_paint_86 hl (k := 4) rfl rfl (by decide) rfl (fun ls hl => ?_)
      refine lv_iload_n hx hb dX11_paint_89 rfl (lv_at hl 0 rfl) ?_
      refine lv_bipush (v := (8 : Int32)) hx hb dX11_paint_90 (by decide) ?_
      refine lv_icmp_ge (tgt := 98) hx hb dX11_paint_92 (by decide) (fun c_92 => ?_) (fun c_92 => ?_)
      · have hF := hF.trans (if_pos c_92)
        have hO := hO.1 c_92
        refine lv_iconst (v := (0 : Int32)) hx hb dX11_paint_98 (by decide) ?_
        refine lv_istore_n (lv' := [(3, .int (0 : Int32)), (5, .int (x5 ||| (((ushr ((gA st 5) (x1 >>> ((2 : Int32) &&& 31)).toNatClampNeg) (((8 : Int32) * (x1 &&& (3 : Int32))) + x3)) &&& (1 : Int32)) <<< (x6 &&& 31)))), (0, .ref (gad g 0)), (1, .int x1), (2, .int x2), (4, .int x4), (6, .int x6)]) hx hb dX11_paint_99 rfl hl (by decide) rfl (fun ls hl => ?_)
        refine lv_iload_n hx hb dX11_paint_100 rfl (lv_at hl 3 rfl) ?_
        refine lv_iload_n hx hb dX11_paint_101 rfl (lv_at hl 4 rfl) ?_
        refine lv_icmp_ne (tgt := 120) hx hb dX11_paint_102 (by decide) (fun c_102 => ?_) (fun c_102 => ?_)
        · have hF := hF.trans (if_neg c_102)
          have hO := hO.2 c_102
          refine lv_iload_n hx hb dX11_paint_120 rfl (lv_at hl 3 rfl) ?_
          refine lv_iconst (v := (1 : Int32)) hx hb dX11_paint_121 (by decide) ?_
          refine lv_iadd hx hb dX11_paint_122 ?_
          refine lv_ldc (v := (65535 : Int32)) hx hb hown (hts _ (List.mem_cons_of_mem _ mw926)) dX11_paint_123 ?_
          refine lv_iand hx hb dX11_paint_125 ?_
          exact k_m_paint_b126 g C rec34 orec34 hrec34 (m_paint_b48 rec34 n) (o_m_paint_b48 orec34 n) ih st x2 (0 : Int32) x4 (x5 ||| (((ushr ((gA st 5) (x1 >>> ((2 : Int32) &&& 31)).toNatClampNeg) (((8 : Int32) * (x1 &&& (3 : Int32))) + x3)) &&& (1 : Int32)) <<< (x6 &&& 31))) x6 ((x1 + (1 : Int32)) &&& (65535 : Int32)) H locs ls hI (lv_sub hl [2, 4, 0, 5, 1, 6] rfl) hO X hF
        · have hF := hF.trans (if_pos c_102)
          have hO := hO.1 c_102
          refine lv_bipush (v := (16 : Int32)) hx hb dX11_paint_105 (by decide) ?_
          refine lv_aload_n hx hb dX11_paint_107 rfl (lv_at hl 2 rfl) ?_
          refine va_get (D := gD g) (ci := 11) (C := RX11) (T := TX11) (N := 50) (v := .ref (gad g 11)) hx hb hts (fun w h => List.mem_cons_of_mem _ (isX110 w h)) hown hK hI.1 0 rfl rfl 19 (by decide) (hts _ (List.mem_cons_of_mem _ mw195)) (fun _ h9 => h9) rfl dX11_paint_108 ?_
          refine lv_iconst (v := (1 : Int32)) hx hb dX11_paint_111 (by decide) ?_
          refine va_iald (f := (gA st 10)) hx hb hK hI.1 11 10 rfl rfl (by unfold vp_in; decide) dX11_paint_112 ?_
          refine lv_imul hx hb dX11_paint_113 ?_
          refine lv_ldc (v := (65535 : Int32)) hx hb hown (hts _ (List.mem_cons_of_mem _ mw926)) dX11_paint_114 ?_
          refine lv_iand hx hb dX11_paint_116 ?_
          refine lv_goto (tgt := 126) hx hb dX11_paint_117 (by decide) ?_
          exact k_m_paint_b126 g C rec34 orec34 hrec34 (m_paint_b48 rec34 n) (o_m_paint_b48 orec34 n) ih st x2 (0 : Int32) x4 (x5 ||| (((ushr ((gA st 5) (x1 >>> ((2 : Int32) &&& 31)).toNatClampNeg) (((8 : Int32) * (x1 &&& (3 : Int32))) + x3)) &&& (1 : Int32)) <<< (x6 &&& 31))) x6 (((16 : Int32) * ((gA st 10) (1 : Int32).toNatClampNeg)) &&& (65535 : Int32)) H locs ls hI (lv_sub hl [2, 4, 0, 5, 1, 6] rfl) hO X hF
      · have hF := hF.trans (if_neg c_92)
        have hO := hO.2 c_92
        refine lv_goto (tgt := 127) hx hb dX11_paint_95 (by decide) ?_
        exact k_m_paint_b127 g C rec34 orec34 hrec34 (m_paint_b48 rec34 n) (o_m_paint_b48 orec34 n) ih st x1 x2 (x3 + (1 : Int32)) x4 (x5 ||| (((ushr ((gA st 5) (x1 >>> ((2 : Int32) &&& 31)).toNatClampNeg) (((8 : Int32) * (x1 &&& (3 : Int32))) + x3)) &&& (1 : Int32)) <<< (x6 &&& 31))) x6 H locs ls hI (lv_sub hl [2, 3, 4, 0, 5, 1, 6] rfl) hO X hF
def m_paint_b34 : Nat → CS → Int32 → Int32 → Int32 → Int32 → Option (CS)
  | 0, _, _, _, _, _ => none
  | n + 1, st, x1, x2, x3, x4 => (if ((2048 : Int32) ≤ x4) then (some (sL (sI st 9 (1 : Int32)) 4 ((gL st 4) + (1 : Int64)))) else (m_paint_b48 (m_paint_b34 n) (9) st x1 x2 x3 x4 (0 : Int32) (0 : Int32)))
def o_m_paint_b34 : Nat → CS → Int32 → Int32 → Int32 → Int32 → Prop
  | 0, _, _, _, _, _ => True
  | n + 1, st, x1, x2, x3, x4 => ((((2048 : Int32) ≤ x4) → True) ∧ (¬ ((2048 : Int32) ≤ x4) → (o_m_paint_b48 (o_m_paint_b34 n) (9) st x1 x2 x3 x4 (0 : Int32) (0 : Int32))))
set_option maxHeartbeats 4000000 in
set_option maxRecDepth 100000 in
theorem k_m_paint_b34 {p : Program} {l : Launch} {e : Env} {s : State} {m : MethodId} {args : Array Value} {below : List Frame} {meth : Method} {c : Code} {A : Nat → Prop} (g : Gm) (C : cX p s m args meth c A cX11_paint none 7 RX11 wq_X11_paint (gD g) vwCl (mty g) (mz g)) : ∀ (n : Nat) (st : CS) (x1 : Int32) (x2 : Int32) (x3 : Int32) (x4 : Int32) (H : Heap) (locs : List Loc) (ls : Array Slot), cI (gD g) vwCl (mw g) A s st H locs → lv_has ls 7 [(0, .ref (gad g 0)), (1, .int x1), (2, .int x2), (3, .int x3), (4, .int x4)] → o_m_paint_b34 n st x1 x2 x3 x4 → ∀ (X : CS), some X = m_paint_b34 n st x1 x2 x3 x4 → W p l e rm_m_paint s m args below meth c H locs 0 0 (MQ below (cQv (gD g) vwCl (mty g) (mw g) A X) args s 0 0 A) (F0 m 34 ls []) := by
  obtain ⟨hx, hb, hr, hml, hown, hts, hlocks, hK, hA, hZ, hzo⟩ := id C
  intro n
  induction n with
  | zero => intro st x1 x2 x3 x4 H locs ls hI hl hO X hF; exact absurd hF (by simp [m_paint_b34])
  | succ n ih =>
    intro st x1 x2 x3 x4 H locs ls hI hl hO X hF
    rw [m_paint_b34] at hF
    rw [o_m_paint_b34] at hO
    refine lv_iload hx hb dX11_paint_34 (lv_at hl 4 rfl) ?_
    refine lv_sipush (v := (2048 : Int32)) hx hb dX11_paint_36 (by decide) ?_
    refine lv_icmp_ge (tgt := 180) hx hb dX11_paint_39 (by decide) (fun c_39 => ?_) (fun c_39 => ?_)
    · have hF := hF.trans (if_pos c_39)
      have hO := hO.1 c_39
      refine lv_aload_n hx hb dX11_paint_180 rfl (lv_at hl 0 rfl) ?_
      refine lv_iconst (v := (1 : Int32)) hx hb dX11_paint_181 (by decide) ?_
      refine va_put (D := gD g) (ci := 11) (C := RX11) (T := TX11) (N := 50) (v := .int (1 : Int32)) (ty := .int) hx hb hts (fun w h => List.mem_cons_of_mem _ (isX110 w h)) tyX11 tyX11_ok nmX11 hown hK hI.1 hI.2.1 hI.2.2 0 rfl rfl 22 (by decide) (hts _ (List.mem_cons_of_mem _ mw216)) (fun _ h9 => h9) rfl (by decide +kernel) rfl rfl (Nat.le_of_ble_eq_true rfl) dX11_paint_182 (fun H locs hP hD hS => ?_)
      have hI : cI (gD g) vwCl (mw g) A s (sI st 9 (1 : Int32)) H locs := ⟨hP, hD, hS⟩
      refine lv_aload_n hx hb dX11_paint_185 rfl (lv_at hl 0 rfl) ?_
      refine lv_dup hx hb dX11_paint_186 rfl ?_
      refine va_get (D := gD g) (ci := 11) (C := RX11) (T := TX11) (N := 50) (v := .long (gL st 4)) hx hb hts (fun w h => List.mem_cons_of_mem _ (isX110 w h)) hown hK hI.1 0 rfl rfl 47 (by decide) (hts _ (List.mem_cons_of_mem _ mw938)) (fun _ h9 => h9) rfl dX11_paint_187 ?_
      refine lv_lconst (v := (1 : Int64)) hx hb dX11_paint_190 (by decide) ?_
      refine lv_ladd hx hb dX11_paint_191 ?_
      refine va_put (D := gD g) (ci := 11) (C := RX11) (T := TX11) (N := 50) (v := .long ((gL st 4) + (1 : Int64))) (ty := .long) hx hb hts (fun w h => List.mem_cons_of_mem _ (isX110 w h)) tyX11 tyX11_ok nmX11 hown hK hI.1 hI.2.1 hI.2.2 0 rfl rfl 47 (by decide) (hts _ (List.mem_cons_of_mem _ mw938)) (fun _ h9 => h9) rfl (by decide +kernel) rfl rfl (Nat.le_of_ble_eq_true rfl) dX11_paint_192 (fun H locs hP hD hS => ?_)
      have hI : cI (gD g) vwCl (mw g) A s (sL (sI st 9 (1 : Int32)) 4 ((gL st 4) + (1 : Int64))) H locs := ⟨hP, hD, hS⟩
      have hF := Option.some.inj hF
      exact cx_vret C hI hF dX11_paint_195
    · have hF := hF.trans (if_neg c_39)
      have hO := hO.2 c_39
      refine lv_iconst (v := (0 : Int32)) hx hb dX11_paint_42 (by decide) ?_
      refine lv_istore (lv' := [(5, .int (0 : Int32)), (0, .ref (gad g 0)), (1, .int x1), (2, .int x2), (3, .int x3), (4, .int x4)]) hx hb dX11_paint_43 hl (by decide) rfl (fun ls hl => ?_)
      refine lv_iconst (v := (0 : Int32)) hx hb dX11_paint_45 (by decide) ?_
      refine lv_istore (lv' := [(6, .int (0 : Int32)), (5, .int (0 : Int32)), (0, .ref (gad g 0)), (1, .int x1), (2, .int x2), (3, .int x3), (4, .int x4)]) hx hb dX11_paint_46 hl (by decide) rfl (fun ls hl => ?_)
      exact k_m_paint_b48 g C (m_paint_b34 n) (o_m_paint_b34 n) ih (9) st x1 x2 x3 x4 (0 : Int32) (0 : Int32) H locs ls hI (lv_sub hl [2, 3, 4, 5, 6, 1, 0] rfl) hO X hF
def m_paint_b34t (st : CS) (x1 : Int32) (x2 : Int32) (x3 : Int32) (x4 : Int32) : CS := (m_paint_b34 (2049) st x1 x2 x3 x4).getD st
def o_m_paint_b34t (st : CS) (x1 : Int32) (x2 : Int32) (x3 : Int32) (x4 : Int32) : Prop := o_m_paint_b34 (2049) st x1 x2 x3 x4 ∧ ∃ r, m_paint_b34 (2049) st x1 x2 x3 x4 = some r
set_option maxHeartbeats 4000000 in
set_option maxRecDepth 100000 in
theorem k_m_paint_b34t {p : Program} {l : Launch} {e : Env} {s : State} {m : MethodId} {args : Array Value} {below : List Frame} {meth : Method} {c : Code} {A : Nat → Prop} (g : Gm) (C : cX p s m args meth c A cX11_paint none 7 RX11 wq_X11_paint (gD g) vwCl (mty g) (mz g)) (st : CS) (x1 : Int32) (x2 : Int32) (x3 : Int32) (x4 : Int32) (H : Heap) (locs : List Loc) (ls : Array Slot) (hI : cI (gD g) vwCl (mw g) A s st H locs) (hl : lv_has ls 7 [(0, .ref (gad g 0)), (1, .int x1), (2, .int x2), (3, .int x3), (4, .int x4)]) (hO : o_m_paint_b34t st x1 x2 x3 x4) (X : CS) (hF : X = m_paint_b34t st x1 x2 x3 x4) : W p l e rm_m_paint s m args below meth c H locs 0 0 (MQ below (cQv (gD g) vwCl (mty g) (mw g) A X) args s 0 0 A) (F0 m 34 ls []) := by
  refine k_m_paint_b34 g C (2049) st x1 x2 x3 x4 H locs ls hI hl hO.1 X ?_
  rw [hF]
  exact some_getD hO.2
def m_paint (st : CS) : CS := (m_paint_b34t st (((16 : Int32) * ((gA st 10) (0 : Int32).toNatClampNeg)) &&& (65535 : Int32)) ((((16 : Int32) * ((gA st 10) (2 : Int32).toNatClampNeg)) + (15 : Int32)) &&& (65535 : Int32)) (0 : Int32) (0 : Int32))
def o_m_paint (st : CS) : Prop := (o_m_paint_b34t st (((16 : Int32) * ((gA st 10) (0 : Int32).toNatClampNeg)) &&& (65535 : Int32)) ((((16 : Int32) * ((gA st 10) (2 : Int32).toNatClampNeg)) + (15 : Int32)) &&& (65535 : Int32)) (0 : Int32) (0 : Int32))
set_option maxHeartbeats 4000000 in
set_option maxRecDepth 100000 in
theorem k_m_paint {p : Program} {l : Launch} {e : Env} {s : State} {m : MethodId} {args : Array Value} {below : List Frame} {meth : Method} {c : Code} {A : Nat → Prop} (g : Gm) (C : cX p s m args meth c A cX11_paint none 7 RX11 wq_X11_paint (gD g) vwCl (mty g) (mz g)) (st : CS) (H : Heap) (locs : List Loc) (ls : Array Slot) (hI : cI (gD g) vwCl (mw g) A s st H locs) (hl : lv_has ls 7 [(0, .ref (gad g 0))]) (hO : o_m_paint st) (X : CS) (hF : X = m_paint st) : W p l e rm_m_paint s m args below meth c H locs 0 0 (MQ below (cQv (gD g) vwCl (mty g) (mw g) A X) args s 0 0 A) (F0 m 0 ls []) := by
  obtain ⟨hx, hb, hr, hml, hown, hts, hlocks, hK, hA, hZ, hzo⟩ := id C
  unfold m_paint at hF
  unfold o_m_paint at hO
  refine lv_bipush (v := (16 : Int32)) hx hb dX11_paint_0 (by decide) ?_
  refine lv_aload_n hx hb dX11_paint_2 rfl (lv_at hl 0 rfl) ?_
  refine va_get (D := gD g) (ci := 11) (C := RX11) (T := TX11) (N := 50) (v := .ref (gad g 11)) hx hb hts (fun w h => List.mem_cons_of_mem _ (isX110 w h)) hown hK hI.1 0 rfl rfl 19 (by decide) (hts _ (List.mem_cons_of_mem _ mw195)) (fun _ h9 => h9) rfl dX11_paint_3 ?_
  refine lv_iconst (v := (0 : Int32)) hx hb dX11_paint_6 (by decide) ?_
  refine va_iald (f := (gA st 10)) hx hb hK hI.1 11 10 rfl rfl (by unfold vp_in; decide) dX11_paint_7 ?_
  refine lv_imul hx hb dX11_paint_8 ?_
  refine lv_ldc (v := (65535 : Int32)) hx hb hown (hts _ (List.mem_cons_of_mem _ mw926)) dX11_paint_9 ?_
  refine lv_iand hx hb dX11_paint_11 ?_
  refine lv_istore_n (lv' := [(1, .int (((16 : Int32) * ((gA st 10) (0 : Int32).toNatClampNeg)) &&& (65535 : Int32))), (0, .ref (gad g 0))]) hx hb dX11_paint_12 rfl hl (by decide) rfl (fun ls hl => ?_)
  refine lv_bipush (v := (16 : Int32)) hx hb dX11_paint_13 (by decide) ?_
  refine lv_aload_n hx hb dX11_paint_15 rfl (lv_at hl 1 rfl) ?_
  refine va_get (D := gD g) (ci := 11) (C := RX11) (T := TX11) (N := 50) (v := .ref (gad g 11)) hx hb hts (fun w h => List.mem_cons_of_mem _ (isX110 w h)) hown hK hI.1 0 rfl rfl 19 (by decide) (hts _ (List.mem_cons_of_mem _ mw195)) (fun _ h9 => h9) rfl dX11_paint_16 ?_
  refine lv_iconst (v := (2 : Int32)) hx hb dX11_paint_19 (by decide) ?_
  refine va_iald (f := (gA st 10)) hx hb hK hI.1 11 10 rfl rfl (by unfold vp_in; decide) dX11_paint_20 ?_
  refine lv_imul hx hb dX11_paint_21 ?_
  refine lv_bipush (v := (15 : Int32)) hx hb dX11_paint_22 (by decide) ?_
  refine lv_iadd hx hb dX11_paint_24 ?_
  refine lv_ldc (v := (65535 : Int32)) hx hb hown (hts _ (List.mem_cons_of_mem _ mw926)) dX11_paint_25 ?_
  refine lv_iand hx hb dX11_paint_27 ?_
  refine lv_istore_n (lv' := [(2, .int ((((16 : Int32) * ((gA st 10) (2 : Int32).toNatClampNeg)) + (15 : Int32)) &&& (65535 : Int32))), (1, .int (((16 : Int32) * ((gA st 10) (0 : Int32).toNatClampNeg)) &&& (65535 : Int32))), (0, .ref (gad g 0))]) hx hb dX11_paint_28 rfl hl (by decide) rfl (fun ls hl => ?_)
  refine lv_iconst (v := (0 : Int32)) hx hb dX11_paint_29 (by decide) ?_
  refine lv_istore_n (lv' := [(3, .int (0 : Int32)), (2, .int ((((16 : Int32) * ((gA st 10) (2 : Int32).toNatClampNeg)) + (15 : Int32)) &&& (65535 : Int32))), (1, .int (((16 : Int32) * ((gA st 10) (0 : Int32).toNatClampNeg)) &&& (65535 : Int32))), (0, .ref (gad g 0))]) hx hb dX11_paint_30 rfl hl (by decide) rfl (fun ls hl => ?_)
  refine lv_iconst (v := (0 : Int32)) hx hb dX11_paint_31 (by decide) ?_
  refine lv_istore (lv' := [(4, .int (0 : Int32)), (3, .int (0 : Int32)), (2, .int ((((16 : Int32) * ((gA st 10) (2 : Int32).toNatClampNeg)) + (15 : Int32)) &&& (65535 : Int32))), (1, .int (((16 : Int32) * ((gA st 10) (0 : Int32).toNatClampNeg)) &&& (65535 : Int32))), (0, .ref (gad g 0))]) hx hb dX11_paint_32 hl (by decide) rfl (fun ls hl => ?_)
  exact k_m_paint_b34t g C st (((16 : Int32) * ((gA st 10) (0 : Int32).toNatClampNeg)) &&& (65535 : Int32)) ((((16 : Int32) * ((gA st 10) (2 : Int32).toNatClampNeg)) + (15 : Int32)) &&& (65535 : Int32)) (0 : Int32) (0 : Int32) H locs ls hI (lv_sub hl [4, 3, 2, 1, 0] rfl) hO X hF
set_option maxHeartbeats 4000000 in
set_option maxRecDepth 100000 in
theorem c_m_paint (l : Launch) (g : Gm) (st : CS) (hO : o_m_paint st) : Mv l yX11_paint wq_X11_paint rm_m_paint (gD g) vwCl (mty g) (mw g) (mz g) [.ref (gad g 0)] st (m_paint st) := by
  intro sz
  refine Met.ofW (cc := cX11_paint) (maxL := 7) (ret := none) (by decide) rfl ?_
  intro p e s m args below meth c s₁ B hml hv
  obtain ⟨rfl, hsz, hP, hK, hD0, hZ⟩ := hv
  subst hsz
  have hl := lv_entry ([.ref (gad g 0)]) (n := 7) (Nat.le_of_ble_eq_true rfl)
  rw [lg_entry_eq]
  generalize (lg_sl ([.ref (gad g 0)]) ++ List.replicate (7 - (lg_sl ([.ref (gad g 0)])).length) Slot.unset).toArray = ls at hl ⊢
  exact k_m_paint g ⟨B.exec, B.bytes, B.returns, hml, findClass_of_methodNamed B.named, atoms_spec (ws := wq_X11_paint) B.pre, B.notSynchronized, hK, fun q h => Or.inr h, hZ, mz_ok g⟩ st  _ _ ls ⟨hP, hD0.self, va_S.rf⟩ hl hO _ rfl
abbrev wq_X11_tick : List Cond := .code yX11_tick cX11_tick 2 none :: wAll
theorem yd_yX11_tick : yX11_tick.cls = RX11 ∧ yX11_tick.cls ≠ "java/lang/invoke/MethodHandle" ∧ yX11_tick.cls ≠ "java/lang/invoke/VarHandle" ∧ (parseMethodDescriptor yX11_tick.desc).map (fun d => d.parameters.length) = some 0 := by decide +kernel
abbrev rm_m_tick : Room := { frames := 1, cells := 0, slots := 0, locals := 26 }
def m_tick_b162 (st : CS) : CS := (if ((lg_cmp ((gL st 0) - (gL st 0) / (20000 : Int64) * (20000 : Int64)) (0 : Int64)) = 0) then (m_paint st) else st)
def o_m_tick_b162 (st : CS) : Prop := ((((lg_cmp ((gL st 0) - (gL st 0) / (20000 : Int64) * (20000 : Int64)) (0 : Int64)) = 0) → ((o_m_paint st) ∧ True)) ∧ (¬ ((lg_cmp ((gL st 0) - (gL st 0) / (20000 : Int64) * (20000 : Int64)) (0 : Int64)) = 0) → True))
set_option maxHeartbeats 4000000 in
set_option maxRecDepth 100000 in
theorem k_m_tick_b162 {p : Program} {l : Launch} {e : Env} {s : State} {m : MethodId} {args : Array Value} {below : List Frame} {meth : Method} {c : Code} {A : Nat → Prop} (g : Gm) (C : cX p s m args meth c A cX11_tick none 2 RX11 wq_X11_tick (gD g) vwCl (mty g) (mz g)) (st : CS) (H : Heap) (locs : List Loc) (ls : Array Slot) (hI : cI (gD g) vwCl (mw g) A s st H locs) (hl : lv_has ls 2 [(0, .ref (gad g 0))]) (hO : o_m_tick_b162 st ) (X : CS) (hF : X = m_tick_b162 st ) : W p l e rm_m_tick s m args below meth c H locs 0 0 (MQ below (cQv (gD g) vwCl (mty g) (mw g) A X) args s 0 0 A) (F0 m 162 ls []) := by
  obtain ⟨hx, hb, hr, hml, hown, hts, hlocks, hK, hA, hZ, hzo⟩ := id C
  unfold m_tick_b162 at hF
  unfold o_m_tick_b162 at hO
  refine lv_aload_n hx hb dX11_tick_162 rfl (lv_at hl 0 rfl) ?_
  refine va_get (D := gD g) (ci := 11) (C := RX11) (T := TX11) (N := 50) (v := .long (gL st 0)) hx hb hts (fun w h => List.mem_cons_of_mem _ (isX110 w h)) hown hK hI.1 0 rfl rfl 21 (by decide) (hts _ (List.mem_cons_of_mem _ mw215)) (fun _ h9 => h9) rfl dX11_tick_163 ?_
  refine lv_ldc2 (v := (20000 : Int64)) hx hb hown (hts _ (List.mem_cons_of_mem _ mw927)) dX11_tick_166 ?_
  refine lv_lrem hx hb dX11_tick_169 (by decide) ?_
  refine lv_lconst (v := (0 : Int64)) hx hb dX11_tick_170 (by decide) ?_
  refine W.lcmp hx hb dX11_tick_171 ?_
  refine lv_if_ne (tgt := 179) hx hb dX11_tick_172 (by decide) (fun c_172 => ?_) (fun c_172 => ?_)
  · have hF := hF.trans (if_neg c_172)
    have hO := hO.2 c_172
    exact cx_vret C hI hF dX11_tick_179
  · have hF := hF.trans (if_pos c_172)
    have hO := hO.1 c_172
    refine lv_aload_n hx hb dX11_tick_175 rfl (lv_at hl 0 rfl) ?_
    have hq_176_0 := hO.1
    have hO := hO.2
    refine cx_Vv (As := []) (rest := []) C (c_m_paint l g st  hq_176_0) (cwV 0 hts (gd_V _ mw934 mw935 mw936 mw3 mw937) rfl rfl rfl yd_yX11_paint ⟨Nat.le_of_ble_eq_true rfl, Nat.le_of_ble_eq_true rfl⟩) (va_recv hK hI.1 (ci := 11) (q0 := 0) rfl rfl) hI rfl hl.1 rfl (Nat.le_of_ble_eq_true rfl) dX11_tick_176 (fun H locs hI => ?_)
    exact cx_vret C hI hF dX11_tick_179
def m_tick_b134 (st : CS) : CS := (if ((gI st 18) ≤ 0) then (m_tick_b162 st ) else (if (((gI st 18) - (1 : Int32)) = 0) then (m_tick_b162 (m_copy (sI st 18 ((gI st 18) - (1 : Int32)))) ) else (m_tick_b162 (sI st 18 ((gI st 18) - (1 : Int32))) )))
def o_m_tick_b134 (st : CS) : Prop := ((((gI st 18) ≤ 0) → (o_m_tick_b162 st )) ∧ (¬ ((gI st 18) ≤ 0) → (((((gI st 18) - (1 : Int32)) = 0) → ((o_m_copy (sI st 18 ((gI st 18) - (1 : Int32)))) ∧ (o_m_tick_b162 (m_copy (sI st 18 ((gI st 18) - (1 : Int32)))) ))) ∧ (¬ (((gI st 18) - (1 : Int32)) = 0) → (o_m_tick_b162 (sI st 18 ((gI st 18) - (1 : Int32))) )))))
set_option maxHeartbeats 4000000 in
set_option maxRecDepth 100000 in
theorem k_m_tick_b134 {p : Program} {l : Launch} {e : Env} {s : State} {m : MethodId} {args : Array Value} {below : List Frame} {meth : Method} {c : Code} {A : Nat → Prop} (g : Gm) (C : cX p s m args meth c A cX11_tick none 2 RX11 wq_X11_tick (gD g) vwCl (mty g) (mz g)) (st : CS) (H : Heap) (locs : List Loc) (ls : Array Slot) (hI : cI (gD g) vwCl (mw g) A s st H locs) (hl : lv_has ls 2 [(0, .ref (gad g 0))]) (hO : o_m_tick_b134 st ) (X : CS) (hF : X = m_tick_b134 st ) : W p l e rm_m_tick s m args below meth c H locs 0 0 (MQ below (cQv (gD g) vwCl (mty g) (mw g) A X) args s 0 0 A) (F0 m 134 ls []) := by
  obtain ⟨hx, hb, hr, hml, hown, hts, hlocks, hK, hA, hZ, hzo⟩ := id C
  unfold m_tick_b134 at hF
  unfold o_m_tick_b134 at hO
  refine lv_aload_n hx hb dX11_tick_134 rfl (lv_at hl 0 rfl) ?_
  refine va_get (D := gD g) (ci := 11) (C := RX11) (T := TX11) (N := 50) (v := .int (gI st 18)) hx hb hts (fun w h => List.mem_cons_of_mem _ (isX110 w h)) hown hK hI.1 0 rfl rfl 35 (by decide) (hts _ (List.mem_cons_of_mem _ mw225)) (fun _ h9 => h9) rfl dX11_tick_135 ?_
  refine lv_if_le (tgt := 162) hx hb dX11_tick_138 (by decide) (fun c_138 => ?_) (fun c_138 => ?_)
  · have hF := hF.trans (if_pos c_138)
    have hO := hO.1 c_138
    exact k_m_tick_b162 g C st  H locs ls hI (lv_sub hl [0] rfl) hO X hF
  · have hF := hF.trans (if_neg c_138)
    have hO := hO.2 c_138
    refine lv_aload_n hx hb dX11_tick_141 rfl (lv_at hl 0 rfl) ?_
    refine lv_dup hx hb dX11_tick_142 rfl ?_
    refine va_get (D := gD g) (ci := 11) (C := RX11) (T := TX11) (N := 50) (v := .int (gI st 18)) hx hb hts (fun w h => List.mem_cons_of_mem _ (isX110 w h)) hown hK hI.1 0 rfl rfl 35 (by decide) (hts _ (List.mem_cons_of_mem _ mw225)) (fun _ h9 => h9) rfl dX11_tick_143 ?_
    refine lv_iconst (v := (1 : Int32)) hx hb dX11_tick_146 (by decide) ?_
    refine lv_isub hx hb dX11_tick_147 ?_
    refine va_put (D := gD g) (ci := 11) (C := RX11) (T := TX11) (N := 50) (v := .int ((gI st 18) - (1 : Int32))) (ty := .int) hx hb hts (fun w h => List.mem_cons_of_mem _ (isX110 w h)) tyX11 tyX11_ok nmX11 hown hK hI.1 hI.2.1 hI.2.2 0 rfl rfl 35 (by decide) (hts _ (List.mem_cons_of_mem _ mw225)) (fun _ h9 => h9) rfl (by decide +kernel) rfl rfl (Nat.le_of_ble_eq_true rfl) dX11_tick_148 (fun H locs hP hD hS => ?_)
    have hI : cI (gD g) vwCl (mw g) A s (sI st 18 ((gI st 18) - (1 : Int32))) H locs := ⟨hP, hD, hS⟩
    refine lv_aload_n hx hb dX11_tick_151 rfl (lv_at hl 0 rfl) ?_
    refine va_get (D := gD g) (ci := 11) (C := RX11) (T := TX11) (N := 50) (v := .int ((gI st 18) - (1 : Int32))) hx hb hts (fun w h => List.mem_cons_of_mem _ (isX110 w h)) hown hK hI.1 0 rfl rfl 35 (by decide) (hts _ (List.mem_cons_of_mem _ mw225)) (fun _ h9 => h9) rfl dX11_tick_152 ?_
    refine lv_if_ne (tgt := 162) hx hb dX11_tick_155 (by decide) (fun c_155 => ?_) (fun c_155 => ?_)
    · have hF := hF.trans (if_neg c_155)
      have hO := hO.2 c_155
      exact k_m_tick_b162 g C (sI st 18 ((gI st 18) - (1 : Int32)))  H locs ls hI (lv_sub hl [0] rfl) hO X hF
    · have hF := hF.trans (if_pos c_155)
      have hO := hO.1 c_155
      refine lv_aload_n hx hb dX11_tick_158 rfl (lv_at hl 0 rfl) ?_
      have hq_159_0 := hO.1
      have hO := hO.2
      refine cx_Vv (As := []) (rest := []) C (c_m_copy l g (sI st 18 ((gI st 18) - (1 : Int32)))  hq_159_0) (cwV 0 hts (gd_V _ mw928 mw929 mw930 mw3 mw931) rfl rfl rfl yd_yX11_copy ⟨Nat.le_of_ble_eq_true rfl, Nat.le_of_ble_eq_true rfl⟩) (va_recv hK hI.1 (ci := 11) (q0 := 0) rfl rfl) hI rfl hl.1 rfl (Nat.le_of_ble_eq_true rfl) dX11_tick_159 (fun H locs hI => ?_)
      exact k_m_tick_b162 g C (m_copy (sI st 18 ((gI st 18) - (1 : Int32))))  H locs ls hI (lv_sub hl [0] rfl) hO X hF
def m_tick_b117 (st : CS) : CS := (if ((gI st 15) ≤ 0) then (m_tick_b134 st ) else (m_tick_b134 (sI st 15 ((gI st 15) - (1 : Int32))) ))
def o_m_tick_b117 (st : CS) : Prop := ((((gI st 15) ≤ 0) → (o_m_tick_b134 st )) ∧ (¬ ((gI st 15) ≤ 0) → (o_m_tick_b134 (sI st 15 ((gI st 15) - (1 : Int32))) )))
set_option maxHeartbeats 4000000 in
set_option maxRecDepth 100000 in
theorem k_m_tick_b117 {p : Program} {l : Launch} {e : Env} {s : State} {m : MethodId} {args : Array Value} {below : List Frame} {meth : Method} {c : Code} {A : Nat → Prop} (g : Gm) (C : cX p s m args meth c A cX11_tick none 2 RX11 wq_X11_tick (gD g) vwCl (mty g) (mz g)) (st : CS) (H : Heap) (locs : List Loc) (ls : Array Slot) (hI : cI (gD g) vwCl (mw g) A s st H locs) (hl : lv_has ls 2 [(0, .ref (gad g 0))]) (hO : o_m_tick_b117 st ) (X : CS) (hF : X = m_tick_b117 st ) : W p l e rm_m_tick s m args below meth c H locs 0 0 (MQ below (cQv (gD g) vwCl (mty g) (mw g) A X) args s 0 0 A) (F0 m 117 ls []) := by
  obtain ⟨hx, hb, hr, hml, hown, hts, hlocks, hK, hA, hZ, hzo⟩ := id C
  unfold m_tick_b117 at hF
  unfold o_m_tick_b117 at hO
  refine lv_aload_n hx hb dX11_tick_117 rfl (lv_at hl 0 rfl) ?_
  refine va_get (D := gD g) (ci := 11) (C := RX11) (T := TX11) (N := 50) (v := .int (gI st 15)) hx hb hts (fun w h => List.mem_cons_of_mem _ (isX110 w h)) hown hK hI.1 0 rfl rfl 32 (by decide) (hts _ (List.mem_cons_of_mem _ mw222)) (fun _ h9 => h9) rfl dX11_tick_118 ?_
  refine lv_if_le (tgt := 134) hx hb dX11_tick_121 (by decide) (fun c_121 => ?_) (fun c_121 => ?_)
  · have hF := hF.trans (if_pos c_121)
    have hO := hO.1 c_121
    exact k_m_tick_b134 g C st  H locs ls hI (lv_sub hl [0] rfl) hO X hF
  · have hF := hF.trans (if_neg c_121)
    have hO := hO.2 c_121
    refine lv_aload_n hx hb dX11_tick_124 rfl (lv_at hl 0 rfl) ?_
    refine lv_dup hx hb dX11_tick_125 rfl ?_
    refine va_get (D := gD g) (ci := 11) (C := RX11) (T := TX11) (N := 50) (v := .int (gI st 15)) hx hb hts (fun w h => List.mem_cons_of_mem _ (isX110 w h)) hown hK hI.1 0 rfl rfl 32 (by decide) (hts _ (List.mem_cons_of_mem _ mw222)) (fun _ h9 => h9) rfl dX11_tick_126 ?_
    refine lv_iconst (v := (1 : Int32)) hx hb dX11_tick_129 (by decide) ?_
    refine lv_isub hx hb dX11_tick_130 ?_
    refine va_put (D := gD g) (ci := 11) (C := RX11) (T := TX11) (N := 50) (v := .int ((gI st 15) - (1 : Int32))) (ty := .int) hx hb hts (fun w h => List.mem_cons_of_mem _ (isX110 w h)) tyX11 tyX11_ok nmX11 hown hK hI.1 hI.2.1 hI.2.2 0 rfl rfl 32 (by decide) (hts _ (List.mem_cons_of_mem _ mw222)) (fun _ h9 => h9) rfl (by decide +kernel) rfl rfl (Nat.le_of_ble_eq_true rfl) dX11_tick_131 (fun H locs hP hD hS => ?_)
    have hI : cI (gD g) vwCl (mw g) A s (sI st 15 ((gI st 15) - (1 : Int32))) H locs := ⟨hP, hD, hS⟩
    exact k_m_tick_b134 g C (sI st 15 ((gI st 15) - (1 : Int32)))  H locs ls hI (lv_sub hl [0] rfl) hO X hF
def m_tick_b111 (rec : CS → Int32 → Option (CS)) (st : CS) (x1 : Int32) : Option (CS) := (rec st (x1 + (1 : Int32)))
def o_m_tick_b111 (orec : CS → Int32 → Prop) (st : CS) (x1 : Int32) : Prop := (orec st (x1 + (1 : Int32)))
set_option maxHeartbeats 4000000 in
set_option maxRecDepth 100000 in
theorem k_m_tick_b111 {p : Program} {l : Launch} {e : Env} {s : State} {m : MethodId} {args : Array Value} {below : List Frame} {meth : Method} {c : Code} {A : Nat → Prop} (g : Gm) (C : cX p s m args meth c A cX11_tick none 2 RX11 wq_X11_tick (gD g) vwCl (mty g) (mz g)) (rec : CS → Int32 → Option (CS)) (orec : CS → Int32 → Prop) (hrec : ∀ (st : CS) (x1 : Int32) (H : Heap) (locs : List Loc) (ls : Array Slot), cI (gD g) vwCl (mw g) A s st H locs → lv_has ls 2 [(0, .ref (gad g 0)), (1, .int x1)] → orec st x1 → ∀ (X : CS), some X = rec st x1 → W p l e rm_m_tick s m args below meth c H locs 0 0 (MQ below (cQv (gD g) vwCl (mty g) (mw g) A X) args s 0 0 A) (F0 m 22 ls [])) (st : CS) (x1 : Int32) (H : Heap) (locs : List Loc) (ls : Array Slot) (hI : cI (gD g) vwCl (mw g) A s st H locs) (hl : lv_has ls 2 [(0, .ref (gad g 0)), (1, .int x1)]) (hO : o_m_tick_b111 orec st x1) (X : CS) (hF : some X = m_tick_b111 rec st x1) : W p l e rm_m_tick s m args below meth c H locs 0 0 (MQ below (cQv (gD g) vwCl (mty g) (mw g) A X) args s 0 0 A) (F0 m 111 ls []) := by
  obtain ⟨hx, hb, hr, hml, hown, hts, hlocks, hK, hA, hZ, hzo⟩ := id C
  unfold m_tick_b111 at hF
  unfold o_m_tick_b111 at hO
  refine lv_iinc (v := (x1 + (1 : Int32))) (lv' := [(1, .int (x1 + (1 : Int32))), (0, .ref (gad g 0))]) hx hb dX11_tick_111 hl (k := 1) rfl rfl (by decide) rfl (fun ls hl => ?_)
  refine lv_goto (tgt := 22) hx hb dX11_tick_114 (by decide) ?_
  exact hrec st (x1 + (1 : Int32)) H locs ls hI (lv_sub hl [1, 0] rfl) hO X hF
def m_tick_b104 (rec : CS → Int32 → Option (CS)) (st : CS) (x1 : Int32) : Option (CS) := (m_tick_b111 rec (sA st 12 (upd (gA st 12) x1.toNatClampNeg (1 : Int32))) x1)
def o_m_tick_b104 (orec : CS → Int32 → Prop) (st : CS) (x1 : Int32) : Prop := (vp_in x1 2 ∧ (o_m_tick_b111 orec (sA st 12 (upd (gA st 12) x1.toNatClampNeg (1 : Int32))) x1))
set_option maxHeartbeats 4000000 in
set_option maxRecDepth 100000 in
theorem k_m_tick_b104 {p : Program} {l : Launch} {e : Env} {s : State} {m : MethodId} {args : Array Value} {below : List Frame} {meth : Method} {c : Code} {A : Nat → Prop} (g : Gm) (C : cX p s m args meth c A cX11_tick none 2 RX11 wq_X11_tick (gD g) vwCl (mty g) (mz g)) (rec : CS → Int32 → Option (CS)) (orec : CS → Int32 → Prop) (hrec : ∀ (st : CS) (x1 : Int32) (H : Heap) (locs : List Loc) (ls : Array Slot), cI (gD g) vwCl (mw g) A s st H locs → lv_has ls 2 [(0, .ref (gad g 0)), (1, .int x1)] → orec st x1 → ∀ (X : CS), some X = rec st x1 → W p l e rm_m_tick s m args below meth c H locs 0 0 (MQ below (cQv (gD g) vwCl (mty g) (mw g) A X) args s 0 0 A) (F0 m 22 ls [])) (st : CS) (x1 : Int32) (H : Heap) (locs : List Loc) (ls : Array Slot) (hI : cI (gD g) vwCl (mw g) A s st H locs) (hl : lv_has ls 2 [(0, .ref (gad g 0)), (1, .int x1)]) (hO : o_m_tick_b104 orec st x1) (X : CS) (hF : some X = m_tick_b104 rec st x1) : W p l e rm_m_tick s m args below meth c H locs 0 0 (MQ below (cQv (gD g) vwCl (mty g) (mw g) A X) args s 0 0 A) (F0 m 104 ls []) := by
  obtain ⟨hx, hb, hr, hml, hown, hts, hlocks, hK, hA, hZ, hzo⟩ := id C
  unfold m_tick_b104 at hF
  unfold o_m_tick_b104 at hO
  refine lv_aload_n hx hb dX11_tick_104 rfl (lv_at hl 0 rfl) ?_
  refine va_get (D := gD g) (ci := 11) (C := RX11) (T := TX11) (N := 50) (v := .ref (gad g 13)) hx hb hts (fun w h => List.mem_cons_of_mem _ (isX110 w h)) hown hK hI.1 0 rfl rfl 23 (by decide) (hts _ (List.mem_cons_of_mem _ mw197)) (fun _ h9 => h9) rfl dX11_tick_105 ?_
  refine lv_iload_n hx hb dX11_tick_108 rfl (lv_at hl 1 rfl) ?_
  refine lv_iconst (v := (1 : Int32)) hx hb dX11_tick_109 (by decide) ?_
  have hq_110_0 := hO.1
  have hO := hO.2
  refine va_iast (f := (gA st 12)) hx hb hK hI.1 hI.2.1 hI.2.2 13 12 rfl rfl hq_110_0 dX11_tick_110 (fun H locs hP hD hS => ?_)
  have hI : cI (gD g) vwCl (mw g) A s (sA st 12 (upd (gA st 12) x1.toNatClampNeg (1 : Int32))) H locs := ⟨hP, hD, hS⟩
  exact k_m_tick_b111 g C rec orec hrec (sA st 12 (upd (gA st 12) x1.toNatClampNeg (1 : Int32))) x1 H locs ls hI (lv_sub hl [0, 1] rfl) hO X hF
def m_tick_b80 (rec : CS → Int32 → Option (CS)) (st : CS) (x1 : Int32) : Option (CS) := (if (((gA st 14) x1.toNatClampNeg) ≤ 0) then (m_tick_b104 rec (sA st 14 (upd (gA st 14) x1.toNatClampNeg ((gA st 13) x1.toNatClampNeg))) x1) else (m_tick_b111 rec st x1))
def o_m_tick_b80 (orec : CS → Int32 → Prop) (st : CS) (x1 : Int32) : Prop := (vp_in x1 2 ∧ (((((gA st 14) x1.toNatClampNeg) ≤ 0) → (vp_in x1 2 ∧ (vp_in x1 2 ∧ (o_m_tick_b104 orec (sA st 14 (upd (gA st 14) x1.toNatClampNeg ((gA st 13) x1.toNatClampNeg))) x1)))) ∧ (¬ (((gA st 14) x1.toNatClampNeg) ≤ 0) → (o_m_tick_b111 orec st x1))))
set_option maxHeartbeats 4000000 in
set_option maxRecDepth 100000 in
theorem k_m_tick_b80 {p : Program} {l : Launch} {e : Env} {s : State} {m : MethodId} {args : Array Value} {below : List Frame} {meth : Method} {c : Code} {A : Nat → Prop} (g : Gm) (C : cX p s m args meth c A cX11_tick none 2 RX11 wq_X11_tick (gD g) vwCl (mty g) (mz g)) (rec : CS → Int32 → Option (CS)) (orec : CS → Int32 → Prop) (hrec : ∀ (st : CS) (x1 : Int32) (H : Heap) (locs : List Loc) (ls : Array Slot), cI (gD g) vwCl (mw g) A s st H locs → lv_has ls 2 [(0, .ref (gad g 0)), (1, .int x1)] → orec st x1 → ∀ (X : CS), some X = rec st x1 → W p l e rm_m_tick s m args below meth c H locs 0 0 (MQ below (cQv (gD g) vwCl (mty g) (mw g) A X) args s 0 0 A) (F0 m 22 ls [])) (st : CS) (x1 : Int32) (H : Heap) (locs : List Loc) (ls : Array Slot) (hI : cI (gD g) vwCl (mw g) A s st H locs) (hl : lv_has ls 2 [(0, .ref (gad g 0)), (1, .int x1)]) (hO : o_m_tick_b80 orec st x1) (X : CS) (hF : some X = m_tick_b80 rec st x1) : W p l e rm_m_tick s m args below meth c H locs 0 0 (MQ below (cQv (gD g) vwCl (mty g) (mw g) A X) args s 0 0 A) (F0 m 80 ls []) := by
  obtain ⟨hx, hb, hr, hml, hown, hts, hlocks, hK, hA, hZ, hzo⟩ := id C
  unfold m_tick_b80 at hF
  unfold o_m_tick_b80 at hO
  refine lv_aload_n hx hb dX11_tick_80 rfl (lv_at hl 0 rfl) ?_
  refine va_get (D := gD g) (ci := 11) (C := RX11) (T := TX11) (N := 50) (v := .ref (gad g 15)) hx hb hts (fun w h => List.mem_cons_of_mem _ (isX110 w h)) hown hK hI.1 0 rfl rfl 25 (by decide) (hts _ (List.mem_cons_of_mem _ mw199)) (fun _ h9 => h9) rfl dX11_tick_81 ?_
  refine lv_iload_n hx hb dX11_tick_84 rfl (lv_at hl 1 rfl) ?_
  have hq_85_0 := hO.1
  have hO := hO.2
  refine va_iald (f := (gA st 14)) hx hb hK hI.1 15 14 rfl rfl hq_85_0 dX11_tick_85 ?_
  refine lv_if_le (tgt := 92) hx hb dX11_tick_86 (by decide) (fun c_86 => ?_) (fun c_86 => ?_)
  · have hF := hF.trans (if_pos c_86)
    have hO := hO.1 c_86
    refine lv_aload_n hx hb dX11_tick_92 rfl (lv_at hl 0 rfl) ?_
    refine va_get (D := gD g) (ci := 11) (C := RX11) (T := TX11) (N := 50) (v := .ref (gad g 15)) hx hb hts (fun w h => List.mem_cons_of_mem _ (isX110 w h)) hown hK hI.1 0 rfl rfl 25 (by decide) (hts _ (List.mem_cons_of_mem _ mw199)) (fun _ h9 => h9) rfl dX11_tick_93 ?_
    refine lv_iload_n hx hb dX11_tick_96 rfl (lv_at hl 1 rfl) ?_
    refine lv_aload_n hx hb dX11_tick_97 rfl (lv_at hl 0 rfl) ?_
    refine va_get (D := gD g) (ci := 11) (C := RX11) (T := TX11) (N := 50) (v := .ref (gad g 14)) hx hb hts (fun w h => List.mem_cons_of_mem _ (isX110 w h)) hown hK hI.1 0 rfl rfl 24 (by decide) (hts _ (List.mem_cons_of_mem _ mw198)) (fun _ h9 => h9) rfl dX11_tick_98 ?_
    refine lv_iload_n hx hb dX11_tick_101 rfl (lv_at hl 1 rfl) ?_
    have hq_102_0 := hO.1
    have hO := hO.2
    refine va_iald (f := (gA st 13)) hx hb hK hI.1 14 13 rfl rfl hq_102_0 dX11_tick_102 ?_
    have hq_103_1 := hO.1
    have hO := hO.2
    refine va_iast (f := (gA st 14)) hx hb hK hI.1 hI.2.1 hI.2.2 15 14 rfl rfl hq_103_1 dX11_tick_103 (fun H locs hP hD hS => ?_)
    have hI : cI (gD g) vwCl (mw g) A s (sA st 14 (upd (gA st 14) x1.toNatClampNeg ((gA st 13) x1.toNatClampNeg))) H locs := ⟨hP, hD, hS⟩
    exact k_m_tick_b104 g C rec orec hrec (sA st 14 (upd (gA st 14) x1.toNatClampNeg ((gA st 13) x1.toNatClampNeg))) x1 H locs ls hI (lv_sub hl [0, 1] rfl) hO X hF
  · have hF := hF.trans (if_neg c_86)
    have hO := hO.2 c_86
    refine lv_goto (tgt := 111) hx hb dX11_tick_89 (by decide) ?_
    exact k_m_tick_b111 g C rec orec hrec st x1 H locs ls hI (lv_sub hl [0, 1] rfl) hO X hF
def m_tick_b79 (rec : CS → Int32 → Option (CS)) (st : CS) (x1 : Int32) (y1 : Int32) (y0 : Int32) : Option (CS) := (m_tick_b80 rec (sA st 14 (upd (gA st 14) y1.toNatClampNeg y0)) x1)
def o_m_tick_b79 (orec : CS → Int32 → Prop) (st : CS) (x1 : Int32) (y1 : Int32) (y0 : Int32) : Prop := (vp_in y1 2 ∧ (o_m_tick_b80 orec (sA st 14 (upd (gA st 14) y1.toNatClampNeg y0)) x1))
set_option maxHeartbeats 4000000 in
set_option maxRecDepth 100000 in
theorem k_m_tick_b79 {p : Program} {l : Launch} {e : Env} {s : State} {m : MethodId} {args : Array Value} {below : List Frame} {meth : Method} {c : Code} {A : Nat → Prop} (g : Gm) (C : cX p s m args meth c A cX11_tick none 2 RX11 wq_X11_tick (gD g) vwCl (mty g) (mz g)) (rec : CS → Int32 → Option (CS)) (orec : CS → Int32 → Prop) (hrec : ∀ (st : CS) (x1 : Int32) (H : Heap) (locs : List Loc) (ls : Array Slot), cI (gD g) vwCl (mw g) A s st H locs → lv_has ls 2 [(0, .ref (gad g 0)), (1, .int x1)] → orec st x1 → ∀ (X : CS), some X = rec st x1 → W p l e rm_m_tick s m args below meth c H locs 0 0 (MQ below (cQv (gD g) vwCl (mty g) (mw g) A X) args s 0 0 A) (F0 m 22 ls [])) (st : CS) (x1 : Int32) (y1 : Int32) (y0 : Int32) (H : Heap) (locs : List Loc) (ls : Array Slot) (hI : cI (gD g) vwCl (mw g) A s st H locs) (hl : lv_has ls 2 [(0, .ref (gad g 0)), (1, .int x1)]) (hO : o_m_tick_b79 orec st x1 y1 y0) (X : CS) (hF : some X = m_tick_b79 rec st x1 y1 y0) : W p l e rm_m_tick s m args below meth c H locs 0 0 (MQ below (cQv (gD g) vwCl (mty g) (mw g) A X) args s 0 0 A) (F0 m 79 ls [.int y0, .int y1, .ref (gad g 15)]) := by
  obtain ⟨hx, hb, hr, hml, hown, hts, hlocks, hK, hA, hZ, hzo⟩ := id C
  unfold m_tick_b79 at hF
  unfold o_m_tick_b79 at hO
  have hq_79_0 := hO.1
  have hO := hO.2
  refine va_iast (f := (gA st 14)) hx hb hK hI.1 hI.2.1 hI.2.2 15 14 rfl rfl hq_79_0 dX11_tick_79 (fun H locs hP hD hS => ?_)
  have hI : cI (gD g) vwCl (mw g) A s (sA st 14 (upd (gA st 14) y1.toNatClampNeg y0)) H locs := ⟨hP, hD, hS⟩
  exact k_m_tick_b80 g C rec orec hrec (sA st 14 (upd (gA st 14) y1.toNatClampNeg y0)) x1 H locs ls hI (lv_sub hl [0, 1] rfl) hO X hF
def m_tick_b22 : Nat → CS → Int32 → Option (CS)
  | 0, _, _ => none
  | n + 1, st, x1 => (if ((2 : Int32) ≤ x1) then (some (m_tick_b117 st )) else (if ((lg_cmp ((gL st 0) - (gL st 0) / (4 : Int64) * (4 : Int64)) (0 : Int64)) = 0) then (if (((gA st 13) x1.toNatClampNeg) = 0) then (m_tick_b111 (m_tick_b22 n) st x1) else (if (((gA st 14) x1.toNatClampNeg) = 0) then (m_tick_b79 (m_tick_b22 n) st x1 x1 (65535 : Int32)) else (m_tick_b79 (m_tick_b22 n) st x1 x1 (((gA st 14) x1.toNatClampNeg) - (1 : Int32))))) else (some (m_tick_b117 st ))))
def o_m_tick_b22 : Nat → CS → Int32 → Prop
  | 0, _, _ => True
  | n + 1, st, x1 => ((((2 : Int32) ≤ x1) → (o_m_tick_b117 st )) ∧ (¬ ((2 : Int32) ≤ x1) → ((((lg_cmp ((gL st 0) - (gL st 0) / (4 : Int64) * (4 : Int64)) (0 : Int64)) = 0) → (vp_in x1 2 ∧ (((((gA st 13) x1.toNatClampNeg) = 0) → (o_m_tick_b111 (o_m_tick_b22 n) st x1)) ∧ (¬ (((gA st 13) x1.toNatClampNeg) = 0) → (vp_in x1 2 ∧ (((((gA st 14) x1.toNatClampNeg) = 0) → (o_m_tick_b79 (o_m_tick_b22 n) st x1 x1 (65535 : Int32))) ∧ (¬ (((gA st 14) x1.toNatClampNeg) = 0) → (vp_in x1 2 ∧ (o_m_tick_b79 (o_m_tick_b22 n) st x1 x1 (((gA st 14) x1.toNatClampNeg) - (1 : Int32))))))))))) ∧ (¬ ((lg_cmp ((gL st 0) - (gL st 0) / (4 : Int64) * (4 : Int64)) (0 : Int64)) = 0) → (o_m_tick_b117 st )))))
set_option maxHeartbeats 4000000 in
set_option maxRecDepth 100000 in
theorem k_m_tick_b22 {p : Program} {l : Launch} {e : Env} {s : State} {m : MethodId} {args : Array Value} {below : List Frame} {meth : Method} {c : Code} {A : Nat → Prop} (g : Gm) (C : cX p s m args meth c A cX11_tick none 2 RX11 wq_X11_tick (gD g) vwCl (mty g) (mz g)) : ∀ (n : Nat) (st : CS) (x1 : Int32) (H : Heap) (locs : List Loc) (ls : Array Slot), cI (gD g) vwCl (mw g) A s st H locs → lv_has ls 2 [(0, .ref (gad g 0)), (1, .int x1)] → o_m_tick_b22 n st x1 → ∀ (X : CS), some X = m_tick_b22 n st x1 → W p l e rm_m_tick s m args below meth c H locs 0 0 (MQ below (cQv (gD g) vwCl (mty g) (mw g) A X) args s 0 0 A) (F0 m 22 ls []) := by
  obtain ⟨hx, hb, hr, hml, hown, hts, hlocks, hK, hA, hZ, hzo⟩ := id C
  intro n
  induction n with
  | zero => intro st x1 H locs ls hI hl hO X hF; exact absurd hF (by simp [m_tick_b22])
  | succ n ih =>
    intro st x1 H locs ls hI hl hO X hF
    rw [m_tick_b22] at hF
    rw [o_m_tick_b22] at hO
    refine lv_iload_n hx hb dX11_tick_22 rfl (lv_at hl 1 rfl) ?_
    refine lv_iconst (v := (2 : Int32)) hx hb dX11_tick_23 (by decide) ?_
    refine lv_icmp_ge (tgt := 117) hx hb dX11_tick_24 (by decide) (fun c_24 => ?_) (fun c_24 => ?_)
    · have hF := hF.trans (if_pos c_24)
      have hO := hO.1 c_24
      have hF := Option.some.inj hF
      exact k_m_tick_b117 g C st  H locs ls hI (lv_sub hl [0] rfl) hO X hF
    · have hF := hF.trans (if_neg c_24)
      have hO := hO.2 c_24
      refine lv_aload_n hx hb dX11_tick_27 rfl (lv_at hl 0 rfl) ?_
      refine va_get (D := gD g) (ci := 11) (C := RX11) (T := TX11) (N := 50) (v := .long (gL st 0)) hx hb hts (fun w h => List.mem_cons_of_mem _ (isX110 w h)) hown hK hI.1 0 rfl rfl 21 (by decide) (hts _ (List.mem_cons_of_mem _ mw215)) (fun _ h9 => h9) rfl dX11_tick_28 ?_
      refine lv_ldc2 (v := (4 : Int64)) hx hb hown (hts _ (List.mem_cons_of_mem _ mw925)) dX11_tick_31 ?_
      refine lv_lrem hx hb dX11_tick_34 (by decide) ?_
      refine lv_lconst (v := (0 : Int64)) hx hb dX11_tick_35 (by decide) ?_
      refine W.lcmp hx hb dX11_tick_36 ?_
      refine lv_if_ne (tgt := 117) hx hb dX11_tick_37 (by decide) (fun c_37 => ?_) (fun c_37 => ?_)
      · have hF := hF.trans (if_neg c_37)
        have hO := hO.2 c_37
        have hF := Option.some.inj hF
        exact k_m_tick_b117 g C st  H locs ls hI (lv_sub hl [0] rfl) hO X hF
      · have hF := hF.trans (if_pos c_37)
        have hO := hO.1 c_37
        refine lv_aload_n hx hb dX11_tick_40 rfl (lv_at hl 0 rfl) ?_
        refine va_get (D := gD g) (ci := 11) (C := RX11) (T := TX11) (N := 50) (v := .ref (gad g 14)) hx hb hts (fun w h => List.mem_cons_of_mem _ (isX110 w h)) hown hK hI.1 0 rfl rfl 24 (by decide) (hts _ (List.mem_cons_of_mem _ mw198)) (fun _ h9 => h9) rfl dX11_tick_41 ?_
        refine lv_iload_n hx hb dX11_tick_44 rfl (lv_at hl 1 rfl) ?_
        have hq_45_0 := hO.1
        have hO := hO.2
        refine va_iald (f := (gA st 13)) hx hb hK hI.1 14 13 rfl rfl hq_45_0 dX11_tick_45 ?_
        refine lv_if_ne (tgt := 52) hx hb dX11_tick_46 (by decide) (fun c_46 => ?_) (fun c_46 => ?_)
        · have hF := hF.trans (if_neg c_46)
          have hO := hO.2 c_46
          refine lv_aload_n hx hb dX11_tick_52 rfl (lv_at hl 0 rfl) ?_
          refine va_get (D := gD g) (ci := 11) (C := RX11) (T := TX11) (N := 50) (v := .ref (gad g 15)) hx hb hts (fun w h => List.mem_cons_of_mem _ (isX110 w h)) hown hK hI.1 0 rfl rfl 25 (by decide) (hts _ (List.mem_cons_of_mem _ mw199)) (fun _ h9 => h9) rfl dX11_tick_53 ?_
          refine lv_iload_n hx hb dX11_tick_56 rfl (lv_at hl 1 rfl) ?_
          refine lv_aload_n hx hb dX11_tick_57 rfl (lv_at hl 0 rfl) ?_
          refine va_get (D := gD g) (ci := 11) (C := RX11) (T := TX11) (N := 50) (v := .ref (gad g 15)) hx hb hts (fun w h => List.mem_cons_of_mem _ (isX110 w h)) hown hK hI.1 0 rfl rfl 25 (by decide) (hts _ (List.mem_cons_of_mem _ mw199)) (fun _ h9 => h9) rfl dX11_tick_58 ?_
          refine lv_iload_n hx hb dX11_tick_61 rfl (lv_at hl 1 rfl) ?_
          have hq_62_0 := hO.1
          have hO := hO.2
          refine va_iald (f := (gA st 14)) hx hb hK hI.1 15 14 rfl rfl hq_62_0 dX11_tick_62 ?_
          refine lv_if_ne (tgt := 71) hx hb dX11_tick_63 (by decide) (fun c_63 => ?_) (fun c_63 => ?_)
          · have hF := hF.trans (if_neg c_63)
            have hO := hO.2 c_63
            refine lv_aload_n hx hb dX11_tick_71 rfl (lv_at hl 0 rfl) ?_
            refine va_get (D := gD g) (ci := 11) (C := RX11) (T := TX11) (N := 50) (v := .ref (gad g 15)) hx hb hts (fun w h => List.mem_cons_of_mem _ (isX110 w h)) hown hK hI.1 0 rfl rfl 25 (by decide) (hts _ (List.mem_cons_of_mem _ mw199)) (fun _ h9 => h9) rfl dX11_tick_72 ?_
            refine lv_iload_n hx hb dX11_tick_75 rfl (lv_at hl 1 rfl) ?_
            have hq_76_0 := hO.1
            have hO := hO.2
            refine va_iald (f := (gA st 14)) hx hb hK hI.1 15 14 rfl rfl hq_76_0 dX11_tick_76 ?_
            refine lv_iconst (v := (1 : Int32)) hx hb dX11_tick_77 (by decide) ?_
            refine lv_isub hx hb dX11_tick_78 ?_
            exact k_m_tick_b79 g C (m_tick_b22 n) (o_m_tick_b22 n) ih st x1 x1 (((gA st 14) x1.toNatClampNeg) - (1 : Int32)) H locs ls hI (lv_sub hl [0, 1] rfl) hO X hF
          · have hF := hF.trans (if_pos c_63)
            have hO := hO.1 c_63
            refine lv_ldc (v := (65535 : Int32)) hx hb hown (hts _ (List.mem_cons_of_mem _ mw926)) dX11_tick_66 ?_
            refine lv_goto (tgt := 79) hx hb dX11_tick_68 (by decide) ?_
            exact k_m_tick_b79 g C (m_tick_b22 n) (o_m_tick_b22 n) ih st x1 x1 (65535 : Int32) H locs ls hI (lv_sub hl [0, 1] rfl) hO X hF
        · have hF := hF.trans (if_pos c_46)
          have hO := hO.1 c_46
          refine lv_goto (tgt := 111) hx hb dX11_tick_49 (by decide) ?_
          exact k_m_tick_b111 g C (m_tick_b22 n) (o_m_tick_b22 n) ih st x1 H locs ls hI (lv_sub hl [0, 1] rfl) hO X hF
def m_tick_b22t (st : CS) (x1 : Int32) : CS := (m_tick_b22 (3) st x1).getD st
def o_m_tick_b22t (st : CS) (x1 : Int32) : Prop := o_m_tick_b22 (3) st x1 ∧ ∃ r, m_tick_b22 (3) st x1 = some r
set_option maxHeartbeats 4000000 in
set_option maxRecDepth 100000 in
theorem k_m_tick_b22t {p : Program} {l : Launch} {e : Env} {s : State} {m : MethodId} {args : Array Value} {below : List Frame} {meth : Method} {c : Code} {A : Nat → Prop} (g : Gm) (C : cX p s m args meth c A cX11_tick none 2 RX11 wq_X11_tick (gD g) vwCl (mty g) (mz g)) (st : CS) (x1 : Int32) (H : Heap) (locs : List Loc) (ls : Array Slot) (hI : cI (gD g) vwCl (mw g) A s st H locs) (hl : lv_has ls 2 [(0, .ref (gad g 0)), (1, .int x1)]) (hO : o_m_tick_b22t st x1) (X : CS) (hF : X = m_tick_b22t st x1) : W p l e rm_m_tick s m args below meth c H locs 0 0 (MQ below (cQv (gD g) vwCl (mty g) (mw g) A X) args s 0 0 A) (F0 m 22 ls []) := by
  refine k_m_tick_b22 g C (3) st x1 H locs ls hI hl hO.1 X ?_
  rw [hF]
  exact some_getD hO.2
def m_tick (st : CS) : CS := (m_tick_b22t (sL (sL st 2 ((gL st 2) + (1 : Int64))) 0 ((gL st 0) + (1 : Int64))) (0 : Int32))
def o_m_tick (st : CS) : Prop := (o_m_tick_b22t (sL (sL st 2 ((gL st 2) + (1 : Int64))) 0 ((gL st 0) + (1 : Int64))) (0 : Int32))
set_option maxHeartbeats 4000000 in
set_option maxRecDepth 100000 in
theorem k_m_tick {p : Program} {l : Launch} {e : Env} {s : State} {m : MethodId} {args : Array Value} {below : List Frame} {meth : Method} {c : Code} {A : Nat → Prop} (g : Gm) (C : cX p s m args meth c A cX11_tick none 2 RX11 wq_X11_tick (gD g) vwCl (mty g) (mz g)) (st : CS) (H : Heap) (locs : List Loc) (ls : Array Slot) (hI : cI (gD g) vwCl (mw g) A s st H locs) (hl : lv_has ls 2 [(0, .ref (gad g 0))]) (hO : o_m_tick st) (X : CS) (hF : X = m_tick st) : W p l e rm_m_tick s m args below meth c H locs 0 0 (MQ below (cQv (gD g) vwCl (mty g) (mw g) A X) args s 0 0 A) (F0 m 0 ls []) := by
  obtain ⟨hx, hb, hr, hml, hown, hts, hlocks, hK, hA, hZ, hzo⟩ := id C
  unfold m_tick at hF
  unfold o_m_tick at hO
  refine lv_aload_n hx hb dX11_tick_0 rfl (lv_at hl 0 rfl) ?_
  refine lv_dup hx hb dX11_tick_1 rfl ?_
  refine va_get (D := gD g) (ci := 11) (C := RX11) (T := TX11) (N := 50) (v := .long (gL st 2)) hx hb hts (fun w h => List.mem_cons_of_mem _ (isX110 w h)) hown hK hI.1 0 rfl rfl 44 (by decide) (hts _ (List.mem_cons_of_mem _ mw924)) (fun _ h9 => h9) rfl dX11_tick_2 ?_
  refine lv_lconst (v := (1 : Int64)) hx hb dX11_tick_5 (by decide) ?_
  refine lv_ladd hx hb dX11_tick_6 ?_
  refine va_put (D := gD g) (ci := 11) (C := RX11) (T := TX11) (N := 50) (v := .long ((gL st 2) + (1 : Int64))) (ty := .long) hx hb hts (fun w h => List.mem_cons_of_mem _ (isX110 w h)) tyX11 tyX11_ok nmX11 hown hK hI.1 hI.2.1 hI.2.2 0 rfl rfl 44 (by decide) (hts _ (List.mem_cons_of_mem _ mw924)) (fun _ h9 => h9) rfl (by decide +kernel) rfl rfl (Nat.le_of_ble_eq_true rfl) dX11_tick_7 (fun H locs hP hD hS => ?_)
  have hI : cI (gD g) vwCl (mw g) A s (sL st 2 ((gL st 2) + (1 : Int64))) H locs := ⟨hP, hD, hS⟩
  refine lv_aload_n hx hb dX11_tick_10 rfl (lv_at hl 0 rfl) ?_
  refine lv_dup hx hb dX11_tick_11 rfl ?_
  refine va_get (D := gD g) (ci := 11) (C := RX11) (T := TX11) (N := 50) (v := .long (gL st 0)) hx hb hts (fun w h => List.mem_cons_of_mem _ (isX110 w h)) hown hK hI.1 0 rfl rfl 21 (by decide) (hts _ (List.mem_cons_of_mem _ mw215)) (fun _ h9 => h9) rfl dX11_tick_12 ?_
  refine lv_lconst (v := (1 : Int64)) hx hb dX11_tick_15 (by decide) ?_
  refine lv_ladd hx hb dX11_tick_16 ?_
  refine va_put (D := gD g) (ci := 11) (C := RX11) (T := TX11) (N := 50) (v := .long ((gL st 0) + (1 : Int64))) (ty := .long) hx hb hts (fun w h => List.mem_cons_of_mem _ (isX110 w h)) tyX11 tyX11_ok nmX11 hown hK hI.1 hI.2.1 hI.2.2 0 rfl rfl 21 (by decide) (hts _ (List.mem_cons_of_mem _ mw215)) (fun _ h9 => h9) rfl (by decide +kernel) rfl rfl (Nat.le_of_ble_eq_true rfl) dX11_tick_17 (fun H locs hP hD hS => ?_)
  have hI : cI (gD g) vwCl (mw g) A s (sL (sL st 2 ((gL st 2) + (1 : Int64))) 0 ((gL st 0) + (1 : Int64))) H locs := ⟨hP, hD, hS⟩
  refine lv_iconst (v := (0 : Int32)) hx hb dX11_tick_20 (by decide) ?_
  refine lv_istore_n (lv' := [(1, .int (0 : Int32)), (0, .ref (gad g 0))]) hx hb dX11_tick_21 rfl hl (by decide) rfl (fun ls hl => ?_)
  exact k_m_tick_b22t g C (sL (sL st 2 ((gL st 2) + (1 : Int64))) 0 ((gL st 0) + (1 : Int64))) (0 : Int32) H locs ls hI (lv_sub hl [1, 0] rfl) hO X hF
set_option maxHeartbeats 4000000 in
set_option maxRecDepth 100000 in
theorem c_m_tick (l : Launch) (g : Gm) (st : CS) (hO : o_m_tick st) : Mv l yX11_tick wq_X11_tick rm_m_tick (gD g) vwCl (mty g) (mw g) (mz g) [.ref (gad g 0)] st (m_tick st) := by
  intro sz
  refine Met.ofW (cc := cX11_tick) (maxL := 2) (ret := none) (by decide) rfl ?_
  intro p e s m args below meth c s₁ B hml hv
  obtain ⟨rfl, hsz, hP, hK, hD0, hZ⟩ := hv
  subst hsz
  have hl := lv_entry ([.ref (gad g 0)]) (n := 2) (Nat.le_of_ble_eq_true rfl)
  rw [lg_entry_eq]
  generalize (lg_sl ([.ref (gad g 0)]) ++ List.replicate (2 - (lg_sl ([.ref (gad g 0)])).length) Slot.unset).toArray = ls at hl ⊢
  exact k_m_tick g ⟨B.exec, B.bytes, B.returns, hml, findClass_of_methodNamed B.named, atoms_spec (ws := wq_X11_tick) B.pre, B.notSynchronized, hK, fun q h => Or.inr h, hZ, mz_ok g⟩ st  _ _ ls ⟨hP, hD0.self, va_S.rf⟩ hl hO _ rfl
abbrev wq_X11_trap : List Cond := .code yX11_trap cX11_trap 6 (some .int) :: wAll
theorem yd_yX11_trap : yX11_trap.cls = RX11 ∧ yX11_trap.cls ≠ "java/lang/invoke/MethodHandle" ∧ yX11_trap.cls ≠ "java/lang/invoke/VarHandle" ∧ (parseMethodDescriptor yX11_trap.desc).map (fun d => d.parameters.length) = some 4 := by decide +kernel
abbrev rm_m_trap : Room := { frames := 2, cells := 0, slots := 0, locals := 44 }
def m_trap_b64 (st : CS) (x2 : Int32) (x5 : Int32) : CS × Int32 := ((m_give st x2 (14 : Int32) x5), (4 : Int32))
def o_m_trap_b64 (st : CS) (x2 : Int32) (x5 : Int32) : Prop := ((o_m_give st x2 (14 : Int32) x5) ∧ True)
set_option maxHeartbeats 4000000 in
set_option maxRecDepth 100000 in
theorem k_m_trap_b64 {p : Program} {l : Launch} {e : Env} {s : State} {m : MethodId} {args : Array Value} {below : List Frame} {meth : Method} {c : Code} {A : Nat → Prop} (g : Gm) (C : cX p s m args meth c A cX11_trap (some .int) 6 RX11 wq_X11_trap (gD g) vwCl (mty g) (mz g)) (st : CS) (x2 : Int32) (x5 : Int32) (H : Heap) (locs : List Loc) (ls : Array Slot) (hI : cI (gD g) vwCl (mw g) A s st H locs) (hl : lv_has ls 6 [(0, .ref (gad g 0)), (2, .int x2), (5, .int x5)]) (hO : o_m_trap_b64 st x2 x5) (X : CS × Int32) (hF : X = m_trap_b64 st x2 x5) : W p l e rm_m_trap s m args below meth c H locs 0 0 (MQ below (cQi (gD g) vwCl (mty g) (mw g) A X.1 X.2) args s 0 0 A) (F0 m 64 ls []) := by
  obtain ⟨hx, hb, hr, hml, hown, hts, hlocks, hK, hA, hZ, hzo⟩ := id C
  unfold m_trap_b64 at hF
  unfold o_m_trap_b64 at hO
  refine lv_aload_n hx hb dX11_trap_64 rfl (lv_at hl 0 rfl) ?_
  refine lv_iload_n hx hb dX11_trap_65 rfl (lv_at hl 1 rfl) ?_
  refine lv_bipush (v := (14 : Int32)) hx hb dX11_trap_66 (by decide) ?_
  refine lv_iload hx hb dX11_trap_68 (lv_at hl 2 rfl) ?_
  have hq_70_0 := hO.1
  have hO := hO.2
  refine cx_Vv (As := [.int x2, .int (14 : Int32), .int x5]) (rest := []) C (c_m_give l g st x2 (14 : Int32) x5 hq_70_0) (cwV 3 hts (gd_V _ mw777 mw778 mw779 mw3 mw780) rfl rfl rfl yd_yX11_give ⟨Nat.le_of_ble_eq_true rfl, Nat.le_of_ble_eq_true rfl⟩) (va_recv hK hI.1 (ci := 11) (q0 := 0) rfl rfl) hI rfl hl.1 rfl (Nat.le_of_ble_eq_true rfl) dX11_trap_70 (fun H locs hI => ?_)
  refine lv_iconst (v := (4 : Int32)) hx hb dX11_trap_73 (by decide) ?_
  exact cx_iret C hI (congrArg Prod.fst hF) (congrArg Prod.snd hF) dX11_trap_74
def m_trap_b51 (st : CS) (x1 : Int32) (x2 : Int32) (x5 : Int32) : CS × Int32 := (if (x1 = (6 : Int32)) then (m_trap_b64 (m_set st (26 : Int32) (1 : Int32)) x2 x5) else (m_trap_b64 st x2 x5))
def o_m_trap_b51 (st : CS) (x1 : Int32) (x2 : Int32) (x5 : Int32) : Prop := (((x1 = (6 : Int32)) → (o_m_trap_b64 (m_set st (26 : Int32) (1 : Int32)) x2 x5)) ∧ (¬ (x1 = (6 : Int32)) → (o_m_trap_b64 st x2 x5)))
set_option maxHeartbeats 4000000 in
set_option maxRecDepth 100000 in
theorem k_m_trap_b51 {p : Program} {l : Launch} {e : Env} {s : State} {m : MethodId} {args : Array Value} {below : List Frame} {meth : Method} {c : Code} {A : Nat → Prop} (g : Gm) (C : cX p s m args meth c A cX11_trap (some .int) 6 RX11 wq_X11_trap (gD g) vwCl (mty g) (mz g)) (st : CS) (x1 : Int32) (x2 : Int32) (x5 : Int32) (H : Heap) (locs : List Loc) (ls : Array Slot) (hI : cI (gD g) vwCl (mw g) A s st H locs) (hl : lv_has ls 6 [(0, .ref (gad g 0)), (1, .int x1), (2, .int x2), (5, .int x5)]) (hO : o_m_trap_b51 st x1 x2 x5) (X : CS × Int32) (hF : X = m_trap_b51 st x1 x2 x5) : W p l e rm_m_trap s m args below meth c H locs 0 0 (MQ below (cQi (gD g) vwCl (mty g) (mw g) A X.1 X.2) args s 0 0 A) (F0 m 51 ls []) := by
  obtain ⟨hx, hb, hr, hml, hown, hts, hlocks, hK, hA, hZ, hzo⟩ := id C
  unfold m_trap_b51 at hF
  unfold o_m_trap_b51 at hO
  refine lv_iload_n hx hb dX11_trap_51 rfl (lv_at hl 1 rfl) ?_
  refine lv_bipush (v := (6 : Int32)) hx hb dX11_trap_52 (by decide) ?_
  refine lv_icmp_ne (tgt := 64) hx hb dX11_trap_54 (by decide) (fun c_54 => ?_) (fun c_54 => ?_)
  · have hF := hF.trans (if_neg c_54)
    have hO := hO.2 c_54
    exact k_m_trap_b64 g C st x2 x5 H locs ls hI (lv_sub hl [0, 2, 3] rfl) hO X hF
  · have hF := hF.trans (if_pos c_54)
    have hO := hO.1 c_54
    refine lv_aload_n hx hb dX11_trap_57 rfl (lv_at hl 0 rfl) ?_
    refine lv_bipush (v := (26 : Int32)) hx hb dX11_trap_58 (by decide) ?_
    refine lv_iconst (v := (1 : Int32)) hx hb dX11_trap_60 (by decide) ?_
    refine cx_Vv (As := [.int (26 : Int32), .int (1 : Int32)]) (rest := []) C (c_m_set l g st (26 : Int32) (1 : Int32)) (cwV 2 hts (gd_V _ mw773 mw774 mw775 mw3 mw776) rfl rfl rfl yd_yX11_set ⟨Nat.le_of_ble_eq_true rfl, Nat.le_of_ble_eq_true rfl⟩) (va_recv hK hI.1 (ci := 11) (q0 := 0) rfl rfl) hI rfl hl.1 rfl (Nat.le_of_ble_eq_true rfl) dX11_trap_61 (fun H locs hI => ?_)
    exact k_m_trap_b64 g C (m_set st (26 : Int32) (1 : Int32)) x2 x5 H locs ls hI (lv_sub hl [0, 2, 3] rfl) hO X hF
def m_trap_b26 (st : CS) (x1 : Int32) (x2 : Int32) (x3 : Int32) (x5 : Int32) : CS × Int32 := (m_trap_b51 (m_set (sI st 1 (((((gI st 1) &&& (-67108861 : Int32)) &&& (-4 : Int32)) ||| x3) ||| x2)) (27 : Int32) (1 : Int32)) x1 x2 x5)
def o_m_trap_b26 (st : CS) (x1 : Int32) (x2 : Int32) (x3 : Int32) (x5 : Int32) : Prop := (o_m_trap_b51 (m_set (sI st 1 (((((gI st 1) &&& (-67108861 : Int32)) &&& (-4 : Int32)) ||| x3) ||| x2)) (27 : Int32) (1 : Int32)) x1 x2 x5)
set_option maxHeartbeats 4000000 in
set_option maxRecDepth 100000 in
theorem k_m_trap_b26 {p : Program} {l : Launch} {e : Env} {s : State} {m : MethodId} {args : Array Value} {below : List Frame} {meth : Method} {c : Code} {A : Nat → Prop} (g : Gm) (C : cX p s m args meth c A cX11_trap (some .int) 6 RX11 wq_X11_trap (gD g) vwCl (mty g) (mz g)) (st : CS) (x1 : Int32) (x2 : Int32) (x3 : Int32) (x5 : Int32) (H : Heap) (locs : List Loc) (ls : Array Slot) (hI : cI (gD g) vwCl (mw g) A s st H locs) (hl : lv_has ls 6 [(0, .ref (gad g 0)), (1, .int x1), (2, .int x2), (3, .int x3), (5, .int x5)]) (hO : o_m_trap_b26 st x1 x2 x3 x5) (X : CS × Int32) (hF : X = m_trap_b26 st x1 x2 x3 x5) : W p l e rm_m_trap s m args below meth c H locs 0 0 (MQ below (cQi (gD g) vwCl (mty g) (mw g) A X.1 X.2) args s 0 0 A) (F0 m 26 ls []) := by
  obtain ⟨hx, hb, hr, hml, hown, hts, hlocks, hK, hA, hZ, hzo⟩ := id C
  unfold m_trap_b26 at hF
  unfold o_m_trap_b26 at hO
  refine lv_aload_n hx hb dX11_trap_26 rfl (lv_at hl 0 rfl) ?_
  refine lv_aload_n hx hb dX11_trap_27 rfl (lv_at hl 0 rfl) ?_
  refine va_get (D := gD g) (ci := 11) (C := RX11) (T := TX11) (N := 50) (v := .int (gI st 1)) hx hb hts (fun w h => List.mem_cons_of_mem _ (isX110 w h)) hown hK hI.1 0 rfl rfl 5 (by decide) (hts _ (List.mem_cons_of_mem _ mw210)) (fun _ h9 => h9) rfl dX11_trap_28 ?_
  refine lv_ldc (v := (-67108861 : Int32)) hx hb hown (hts _ (List.mem_cons_of_mem _ mw752)) dX11_trap_31 ?_
  refine lv_iand hx hb dX11_trap_33 ?_
  refine lv_bipush (v := (-4 : Int32)) hx hb dX11_trap_34 (by decide) ?_
  refine lv_iand hx hb dX11_trap_36 ?_
  refine lv_iload_n hx hb dX11_trap_37 rfl (lv_at hl 3 rfl) ?_
  refine lv_ior hx hb dX11_trap_38 ?_
  refine lv_iload_n hx hb dX11_trap_39 rfl (lv_at hl 2 rfl) ?_
  refine lv_ior hx hb dX11_trap_40 ?_
  refine va_put (D := gD g) (ci := 11) (C := RX11) (T := TX11) (N := 50) (v := .int (((((gI st 1) &&& (-67108861 : Int32)) &&& (-4 : Int32)) ||| x3) ||| x2)) (ty := .int) hx hb hts (fun w h => List.mem_cons_of_mem _ (isX110 w h)) tyX11 tyX11_ok nmX11 hown hK hI.1 hI.2.1 hI.2.2 0 rfl rfl 5 (by decide) (hts _ (List.mem_cons_of_mem _ mw210)) (fun _ h9 => h9) rfl (by decide +kernel) rfl rfl (Nat.le_of_ble_eq_true rfl) dX11_trap_41 (fun H locs hP hD hS => ?_)
  have hI : cI (gD g) vwCl (mw g) A s (sI st 1 (((((gI st 1) &&& (-67108861 : Int32)) &&& (-4 : Int32)) ||| x3) ||| x2)) H locs := ⟨hP, hD, hS⟩
  refine lv_aload_n hx hb dX11_trap_44 rfl (lv_at hl 0 rfl) ?_
  refine lv_bipush (v := (27 : Int32)) hx hb dX11_trap_45 (by decide) ?_
  refine lv_iconst (v := (1 : Int32)) hx hb dX11_trap_47 (by decide) ?_
  refine cx_Vv (As := [.int (27 : Int32), .int (1 : Int32)]) (rest := []) C (c_m_set l g (sI st 1 (((((gI st 1) &&& (-67108861 : Int32)) &&& (-4 : Int32)) ||| x3) ||| x2)) (27 : Int32) (1 : Int32)) (cwV 2 hts (gd_V _ mw773 mw774 mw775 mw3 mw776) rfl rfl rfl yd_yX11_set ⟨Nat.le_of_ble_eq_true rfl, Nat.le_of_ble_eq_true rfl⟩) (va_recv hK hI.1 (ci := 11) (q0 := 0) rfl rfl) hI rfl hl.1 rfl (Nat.le_of_ble_eq_true rfl) dX11_trap_48 (fun H locs hI => ?_)
  exact k_m_trap_b51 g C (m_set (sI st 1 (((((gI st 1) &&& (-67108861 : Int32)) &&& (-4 : Int32)) ||| x3) ||| x2)) (27 : Int32) (1 : Int32)) x1 x2 x5 H locs ls hI (lv_sub hl [0, 1, 2, 4] rfl) hO X hF
def m_trap (st : CS) (x1 : Int32) (x2 : Int32) (x3 : Int32) (x4 : Int32) : CS × Int32 := (m_trap_b26 (sB st 0 (vp_updL (gB st 0) x1.toNatClampNeg (((gB st 0) x1.toNatClampNeg) + (1 : Int64)))) x1 x2 x3 (((gI st 1) &&& (-67108861 : Int32)) ||| (m_ahead st x4)))
def o_m_trap (st : CS) (x1 : Int32) (x2 : Int32) (x3 : Int32) (x4 : Int32) : Prop := (vp_in x1 7 ∧ (vp_in x1 7 ∧ (o_m_trap_b26 (sB st 0 (vp_updL (gB st 0) x1.toNatClampNeg (((gB st 0) x1.toNatClampNeg) + (1 : Int64)))) x1 x2 x3 (((gI st 1) &&& (-67108861 : Int32)) ||| (m_ahead st x4)))))
set_option maxHeartbeats 4000000 in
set_option maxRecDepth 100000 in
theorem k_m_trap {p : Program} {l : Launch} {e : Env} {s : State} {m : MethodId} {args : Array Value} {below : List Frame} {meth : Method} {c : Code} {A : Nat → Prop} (g : Gm) (C : cX p s m args meth c A cX11_trap (some .int) 6 RX11 wq_X11_trap (gD g) vwCl (mty g) (mz g)) (st : CS) (x1 : Int32) (x2 : Int32) (x3 : Int32) (x4 : Int32) (H : Heap) (locs : List Loc) (ls : Array Slot) (hI : cI (gD g) vwCl (mw g) A s st H locs) (hl : lv_has ls 6 [(0, .ref (gad g 0)), (1, .int x1), (2, .int x2), (3, .int x3), (4, .int x4)]) (hO : o_m_trap st x1 x2 x3 x4) (X : CS × Int32) (hF : X = m_trap st x1 x2 x3 x4) : W p l e rm_m_trap s m args below meth c H locs 0 0 (MQ below (cQi (gD g) vwCl (mty g) (mw g) A X.1 X.2) args s 0 0 A) (F0 m 0 ls []) := by
  obtain ⟨hx, hb, hr, hml, hown, hts, hlocks, hK, hA, hZ, hzo⟩ := id C
  unfold m_trap at hF
  unfold o_m_trap at hO
  refine lv_aload_n hx hb dX11_trap_0 rfl (lv_at hl 0 rfl) ?_
  refine va_get (D := gD g) (ci := 11) (C := RX11) (T := TX11) (N := 50) (v := .int (gI st 1)) hx hb hts (fun w h => List.mem_cons_of_mem _ (isX110 w h)) hown hK hI.1 0 rfl rfl 5 (by decide) (hts _ (List.mem_cons_of_mem _ mw210)) (fun _ h9 => h9) rfl dX11_trap_1 ?_
  refine lv_ldc (v := (-67108861 : Int32)) hx hb hown (hts _ (List.mem_cons_of_mem _ mw752)) dX11_trap_4 ?_
  refine lv_iand hx hb dX11_trap_6 ?_
  refine lv_aload_n hx hb dX11_trap_7 rfl (lv_at hl 0 rfl) ?_
  refine lv_iload hx hb dX11_trap_8 (lv_at hl 4 rfl) ?_
  refine cx_Vi (As := [.int x4]) (rest := [.int ((gI st 1) &&& (-67108861 : Int32))]) C (c_m_ahead l g st x4) (cwV 1 hts (gd_V _ mw769 mw770 mw771 mw3 mw772) rfl rfl rfl yd_yX11_ahead ⟨Nat.le_of_ble_eq_true rfl, Nat.le_of_ble_eq_true rfl⟩) (va_recv hK hI.1 (ci := 11) (q0 := 0) rfl rfl) hI rfl hl.1 rfl (Nat.le_of_ble_eq_true rfl) dX11_trap_10 (fun H locs hI => ?_)
  refine lv_ior hx hb dX11_trap_13 ?_
  refine lv_istore (lv' := [(5, .int (((gI st 1) &&& (-67108861 : Int32)) ||| (m_ahead st x4))), (0, .ref (gad g 0)), (1, .int x1), (2, .int x2), (3, .int x3), (4, .int x4)]) hx hb dX11_trap_14 hl (by decide) rfl (fun ls hl => ?_)
  refine lv_aload_n hx hb dX11_trap_16 rfl (lv_at hl 1 rfl) ?_
  refine va_get (D := gD g) (ci := 11) (C := RX11) (T := TX11) (N := 50) (v := .ref (gad g 18)) hx hb hts (fun w h => List.mem_cons_of_mem _ (isX110 w h)) hown hK hI.1 0 rfl rfl 46 (by decide) (hts _ (List.mem_cons_of_mem _ mw203)) (fun _ h9 => h9) rfl dX11_trap_17 ?_
  refine lv_iload_n hx hb dX11_trap_20 rfl (lv_at hl 2 rfl) ?_
  refine lv_dup2_11 hx hb dX11_trap_21 rfl rfl ?_
  have hq_22_0 := hO.1
  have hO := hO.2
  refine va_lald (f := (gB st 0)) hx hb hK hI.1 18 17 rfl rfl hq_22_0 dX11_trap_22 ?_
  refine lv_lconst (v := (1 : Int64)) hx hb dX11_trap_23 (by decide) ?_
  refine lv_ladd hx hb dX11_trap_24 ?_
  have hq_25_1 := hO.1
  have hO := hO.2
  refine va_last (f := (gB st 0)) hx hb hK hI.1 hI.2.1 hI.2.2 18 17 rfl rfl hq_25_1 dX11_trap_25 (fun H locs hP hD hS => ?_)
  have hI : cI (gD g) vwCl (mw g) A s (sB st 0 (vp_updL (gB st 0) x1.toNatClampNeg (((gB st 0) x1.toNatClampNeg) + (1 : Int64)))) H locs := ⟨hP, hD, hS⟩
  exact k_m_trap_b26 g C (sB st 0 (vp_updL (gB st 0) x1.toNatClampNeg (((gB st 0) x1.toNatClampNeg) + (1 : Int64)))) x1 x2 x3 (((gI st 1) &&& (-67108861 : Int32)) ||| (m_ahead st x4)) H locs ls hI (lv_sub hl [1, 2, 3, 4, 0] rfl) hO X hF
set_option maxHeartbeats 4000000 in
set_option maxRecDepth 100000 in
theorem c_m_trap (l : Launch) (g : Gm) (st : CS) (x1 : Int32) (x2 : Int32) (x3 : Int32) (x4 : Int32) (hO : o_m_trap st x1 x2 x3 x4) : Mi l yX11_trap wq_X11_trap rm_m_trap (gD g) vwCl (mty g) (mw g) (mz g) [.ref (gad g 0), .int x1, .int x2, .int x3, .int x4] st (m_trap st x1 x2 x3 x4).1 (m_trap st x1 x2 x3 x4).2 := by
  intro sz
  refine Met.ofW (cc := cX11_trap) (maxL := 6) (ret := (some .int)) (by decide) rfl ?_
  intro p e s m args below meth c s₁ B hml hv
  obtain ⟨rfl, hsz, hP, hK, hD0, hZ⟩ := hv
  subst hsz
  have hl := lv_entry ([.ref (gad g 0), .int x1, .int x2, .int x3, .int x4]) (n := 6) (Nat.le_of_ble_eq_true rfl)
  rw [lg_entry_eq]
  generalize (lg_sl ([.ref (gad g 0), .int x1, .int x2, .int x3, .int x4]) ++ List.replicate (6 - (lg_sl ([.ref (gad g 0), .int x1, .int x2, .int x3, .int x4])).length) Slot.unset).toArray = ls at hl ⊢
  exact k_m_trap g ⟨B.exec, B.bytes, B.returns, hml, findClass_of_methodNamed B.named, atoms_spec (ws := wq_X11_trap) B.pre, B.notSynchronized, hK, fun q h => Or.inr h, hZ, mz_ok g⟩ st x1 x2 x3 x4 _ _ ls ⟨hP, hD0.self, va_S.rf⟩ hl hO _ rfl
abbrev wq_X11_undefined : List Cond := .code yX11_undefined cX11_undefined 1 (some .int) :: wAll
theorem yd_yX11_undefined : yX11_undefined.cls = RX11 ∧ yX11_undefined.cls ≠ "java/lang/invoke/MethodHandle" ∧ yX11_undefined.cls ≠ "java/lang/invoke/VarHandle" ∧ (parseMethodDescriptor yX11_undefined.desc).map (fun d => d.parameters.length) = some 0 := by decide +kernel
abbrev rm_m_undefined : Room := { frames := 3, cells := 0, slots := 0, locals := 69 }
def m_undefined (st : CS) : CS × Int32 := ((m_trap st (0 : Int32) (3 : Int32) (4 : Int32) (4 : Int32)).1, (m_trap st (0 : Int32) (3 : Int32) (4 : Int32) (4 : Int32)).2)
def o_m_undefined (st : CS) : Prop := ((o_m_trap st (0 : Int32) (3 : Int32) (4 : Int32) (4 : Int32)) ∧ True)
set_option maxHeartbeats 4000000 in
set_option maxRecDepth 100000 in
theorem k_m_undefined {p : Program} {l : Launch} {e : Env} {s : State} {m : MethodId} {args : Array Value} {below : List Frame} {meth : Method} {c : Code} {A : Nat → Prop} (g : Gm) (C : cX p s m args meth c A cX11_undefined (some .int) 1 RX11 wq_X11_undefined (gD g) vwCl (mty g) (mz g)) (st : CS) (H : Heap) (locs : List Loc) (ls : Array Slot) (hI : cI (gD g) vwCl (mw g) A s st H locs) (hl : lv_has ls 1 [(0, .ref (gad g 0))]) (hO : o_m_undefined st) (X : CS × Int32) (hF : X = m_undefined st) : W p l e rm_m_undefined s m args below meth c H locs 0 0 (MQ below (cQi (gD g) vwCl (mty g) (mw g) A X.1 X.2) args s 0 0 A) (F0 m 0 ls []) := by
  obtain ⟨hx, hb, hr, hml, hown, hts, hlocks, hK, hA, hZ, hzo⟩ := id C
  unfold m_undefined at hF
  unfold o_m_undefined at hO
  refine lv_aload_n hx hb dX11_undefined_0 rfl (lv_at hl 0 rfl) ?_
  refine lv_iconst (v := (0 : Int32)) hx hb dX11_undefined_1 (by decide) ?_
  refine lv_iconst (v := (3 : Int32)) hx hb dX11_undefined_2 (by decide) ?_
  refine lv_iconst (v := (4 : Int32)) hx hb dX11_undefined_3 (by decide) ?_
  refine lv_iconst (v := (4 : Int32)) hx hb dX11_undefined_4 (by decide) ?_
  have hq_5_0 := hO.1
  have hO := hO.2
  refine cx_Vi (As := [.int (0 : Int32), .int (3 : Int32), .int (4 : Int32), .int (4 : Int32)]) (rest := []) C (c_m_trap l g st (0 : Int32) (3 : Int32) (4 : Int32) (4 : Int32) hq_5_0) (cwV 4 hts (gd_V _ mw765 mw766 mw767 mw3 mw768) rfl rfl rfl yd_yX11_trap ⟨Nat.le_of_ble_eq_true rfl, Nat.le_of_ble_eq_true rfl⟩) (va_recv hK hI.1 (ci := 11) (q0 := 0) rfl rfl) hI rfl hl.1 rfl (Nat.le_of_ble_eq_true rfl) dX11_undefined_5 (fun H locs hI => ?_)
  exact cx_iret C hI (congrArg Prod.fst hF) (congrArg Prod.snd hF) dX11_undefined_8
set_option maxHeartbeats 4000000 in
set_option maxRecDepth 100000 in
theorem c_m_undefined (l : Launch) (g : Gm) (st : CS) (hO : o_m_undefined st) : Mi l yX11_undefined wq_X11_undefined rm_m_undefined (gD g) vwCl (mty g) (mw g) (mz g) [.ref (gad g 0)] st (m_undefined st).1 (m_undefined st).2 := by
  intro sz
  refine Met.ofW (cc := cX11_undefined) (maxL := 1) (ret := (some .int)) (by decide) rfl ?_
  intro p e s m args below meth c s₁ B hml hv
  obtain ⟨rfl, hsz, hP, hK, hD0, hZ⟩ := hv
  subst hsz
  have hl := lv_entry ([.ref (gad g 0)]) (n := 1) (Nat.le_of_ble_eq_true rfl)
  rw [lg_entry_eq]
  generalize (lg_sl ([.ref (gad g 0)]) ++ List.replicate (1 - (lg_sl ([.ref (gad g 0)])).length) Slot.unset).toArray = ls at hl ⊢
  exact k_m_undefined g ⟨B.exec, B.bytes, B.returns, hml, findClass_of_methodNamed B.named, atoms_spec (ws := wq_X11_undefined) B.pre, B.notSynchronized, hK, fun q h => Or.inr h, hZ, mz_ok g⟩ st  _ _ ls ⟨hP, hD0.self, va_S.rf⟩ hl hO _ rfl
abbrev wq_X11_isSo : List Cond := .code yX11_isSo cX11_isSo 7 (some .boolean) :: wAll
theorem yd_yX11_isSo : yX11_isSo.cls = RX11 ∧ yX11_isSo.cls ≠ "java/lang/invoke/MethodHandle" ∧ yX11_isSo.cls ≠ "java/lang/invoke/VarHandle" ∧ (parseMethodDescriptor yX11_isSo.desc).map (fun d => d.parameters.length) = some 1 := by decide +kernel
abbrev rm_m_isSo : Room := { frames := 1, cells := 0, slots := 0, locals := 21 }
def m_isSo_b173 (st : CS) (y1 : Int32) (y0 : Int32) : Int32 := (if (y1 = y0) then (1 : Int32) else (0 : Int32))
set_option maxHeartbeats 4000000 in
set_option maxRecDepth 100000 in
theorem k_m_isSo_b173 {p : Program} {l : Launch} {e : Env} {s : State} {m : MethodId} {args : Array Value} {below : List Frame} {meth : Method} {c : Code} {A : Nat → Prop} (g : Gm) (C : cX p s m args meth c A cX11_isSo (some .boolean) 7 RX11 wq_X11_isSo (gD g) vwCl (mty g) (mz g)) (st : CS) (y1 : Int32) (y0 : Int32) (H : Heap) (locs : List Loc) (ls : Array Slot) (hI : cI (gD g) vwCl (mw g) A s st H locs) (hl : lv_has ls 7 [(0, .ref (gad g 0))]) (X : Int32) (hF : X = m_isSo_b173 st y1 y0) : W p l e rm_m_isSo s m args below meth c H locs 0 0 (MQ below (cQi (gD g) vwCl (mty g) (mw g) A st X) args s 0 0 A) (F0 m 173 ls [.int y0, .int y1]) := by
  obtain ⟨hx, hb, hr, hml, hown, hts, hlocks, hK, hA, hZ, hzo⟩ := id C
  unfold m_isSo_b173 at hF
  refine lv_icmp_ne (tgt := 180) hx hb dX11_isSo_173 (by decide) (fun c_173 => ?_) (fun c_173 => ?_)
  · have hF := hF.trans (if_neg c_173)
    refine lv_iconst (v := (0 : Int32)) hx hb dX11_isSo_180 (by decide) ?_
    exact cx_zret C hI rfl hF rfl dX11_isSo_181
  · have hF := hF.trans (if_pos c_173)
    refine lv_iconst (v := (1 : Int32)) hx hb dX11_isSo_176 (by decide) ?_
    refine lv_goto (tgt := 181) hx hb dX11_isSo_177 (by decide) ?_
    exact cx_zret C hI rfl hF rfl dX11_isSo_181
def m_isSo_b160 (st : CS) (x1 : Int32) (x6 : Int32) : Int32 := (if ((x1 &&& (1 : Int32)) = 0) then (m_isSo_b173 st x6 (1 : Int32)) else (m_isSo_b173 st x6 (0 : Int32)))
set_option maxHeartbeats 4000000 in
set_option maxRecDepth 100000 in
theorem k_m_isSo_b160 {p : Program} {l : Launch} {e : Env} {s : State} {m : MethodId} {args : Array Value} {below : List Frame} {meth : Method} {c : Code} {A : Nat → Prop} (g : Gm) (C : cX p s m args meth c A cX11_isSo (some .boolean) 7 RX11 wq_X11_isSo (gD g) vwCl (mty g) (mz g)) (st : CS) (x1 : Int32) (x6 : Int32) (H : Heap) (locs : List Loc) (ls : Array Slot) (hI : cI (gD g) vwCl (mw g) A s st H locs) (hl : lv_has ls 7 [(0, .ref (gad g 0)), (1, .int x1), (6, .int x6)]) (X : Int32) (hF : X = m_isSo_b160 st x1 x6) : W p l e rm_m_isSo s m args below meth c H locs 0 0 (MQ below (cQi (gD g) vwCl (mty g) (mw g) A st X) args s 0 0 A) (F0 m 160 ls []) := by
  obtain ⟨hx, hb, hr, hml, hown, hts, hlocks, hK, hA, hZ, hzo⟩ := id C
  unfold m_isSo_b160 at hF
  refine lv_iload hx hb dX11_isSo_160 (lv_at hl 2 rfl) ?_
  refine lv_iload_n hx hb dX11_isSo_162 rfl (lv_at hl 1 rfl) ?_
  refine lv_iconst (v := (1 : Int32)) hx hb dX11_isSo_163 (by decide) ?_
  refine lv_iand hx hb dX11_isSo_164 ?_
  refine lv_if_ne (tgt := 172) hx hb dX11_isSo_165 (by decide) (fun c_165 => ?_) (fun c_165 => ?_)
  · have hF := hF.trans (if_neg c_165)
    refine lv_iconst (v := (0 : Int32)) hx hb dX11_isSo_172 (by decide) ?_
    exact k_m_isSo_b173 g C st x6 (0 : Int32) H locs ls hI (lv_sub hl [0] rfl) X hF
  · have hF := hF.trans (if_pos c_165)
    refine lv_iconst (v := (1 : Int32)) hx hb dX11_isSo_168 (by decide) ?_
    refine lv_goto (tgt := 173) hx hb dX11_isSo_169 (by decide) ?_
    exact k_m_isSo_b173 g C st x6 (1 : Int32) H locs ls hI (lv_sub hl [0] rfl) X hF
def m_isSo_b116 (st : CS) (x1 : Int32) (y0 : Int32) : Int32 := (m_isSo_b160 st x1 y0)
set_option maxHeartbeats 4000000 in
set_option maxRecDepth 100000 in
theorem k_m_isSo_b116 {p : Program} {l : Launch} {e : Env} {s : State} {m : MethodId} {args : Array Value} {below : List Frame} {meth : Method} {c : Code} {A : Nat → Prop} (g : Gm) (C : cX p s m args meth c A cX11_isSo (some .boolean) 7 RX11 wq_X11_isSo (gD g) vwCl (mty g) (mz g)) (st : CS) (x1 : Int32) (y0 : Int32) (H : Heap) (locs : List Loc) (ls : Array Slot) (hI : cI (gD g) vwCl (mw g) A s st H locs) (hl : lv_has ls 7 [(0, .ref (gad g 0)), (1, .int x1)]) (X : Int32) (hF : X = m_isSo_b116 st x1 y0) : W p l e rm_m_isSo s m args below meth c H locs 0 0 (MQ below (cQi (gD g) vwCl (mty g) (mw g) A st X) args s 0 0 A) (F0 m 116 ls [.int y0]) := by
  obtain ⟨hx, hb, hr, hml, hown, hts, hlocks, hK, hA, hZ, hzo⟩ := id C
  unfold m_isSo_b116 at hF
  refine lv_istore (lv' := [(6, .int y0), (0, .ref (gad g 0)), (1, .int x1)]) hx hb dX11_isSo_116 hl (by decide) rfl (fun ls hl => ?_)
  refine lv_goto (tgt := 160) hx hb dX11_isSo_118 (by decide) ?_
  exact k_m_isSo_b160 g C st x1 y0 H locs ls hI (lv_sub hl [1, 2, 0] rfl) X hF
def m_isSo_b115 (st : CS) (x1 : Int32) : Int32 := (m_isSo_b116 st x1 (0 : Int32))
set_option maxHeartbeats 4000000 in
set_option maxRecDepth 100000 in
theorem k_m_isSo_b115 {p : Program} {l : Launch} {e : Env} {s : State} {m : MethodId} {args : Array Value} {below : List Frame} {meth : Method} {c : Code} {A : Nat → Prop} (g : Gm) (C : cX p s m args meth c A cX11_isSo (some .boolean) 7 RX11 wq_X11_isSo (gD g) vwCl (mty g) (mz g)) (st : CS) (x1 : Int32) (H : Heap) (locs : List Loc) (ls : Array Slot) (hI : cI (gD g) vwCl (mw g) A s st H locs) (hl : lv_has ls 7 [(0, .ref (gad g 0)), (1, .int x1)]) (X : Int32) (hF : X = m_isSo_b115 st x1) : W p l e rm_m_isSo s m args below meth c H locs 0 0 (MQ below (cQi (gD g) vwCl (mty g) (mw g) A st X) args s 0 0 A) (F0 m 115 ls []) := by
  obtain ⟨hx, hb, hr, hml, hown, hts, hlocks, hK, hA, hZ, hzo⟩ := id C
  unfold m_isSo_b115 at hF
  refine lv_iconst (v := (0 : Int32)) hx hb dX11_isSo_115 (by decide) ?_
  exact k_m_isSo_b116 g C st x1 (0 : Int32) H locs ls hI (lv_sub hl [0, 1] rfl) X hF
def m_isSo_b132 (st : CS) (x1 : Int32) (y0 : Int32) : Int32 := (m_isSo_b160 st x1 y0)
set_option maxHeartbeats 4000000 in
set_option maxRecDepth 100000 in
theorem k_m_isSo_b132 {p : Program} {l : Launch} {e : Env} {s : State} {m : MethodId} {args : Array Value} {below : List Frame} {meth : Method} {c : Code} {A : Nat → Prop} (g : Gm) (C : cX p s m args meth c A cX11_isSo (some .boolean) 7 RX11 wq_X11_isSo (gD g) vwCl (mty g) (mz g)) (st : CS) (x1 : Int32) (y0 : Int32) (H : Heap) (locs : List Loc) (ls : Array Slot) (hI : cI (gD g) vwCl (mw g) A s st H locs) (hl : lv_has ls 7 [(0, .ref (gad g 0)), (1, .int x1)]) (X : Int32) (hF : X = m_isSo_b132 st x1 y0) : W p l e rm_m_isSo s m args below meth c H locs 0 0 (MQ below (cQi (gD g) vwCl (mty g) (mw g) A st X) args s 0 0 A) (F0 m 132 ls [.int y0]) := by
  obtain ⟨hx, hb, hr, hml, hown, hts, hlocks, hK, hA, hZ, hzo⟩ := id C
  unfold m_isSo_b132 at hF
  refine lv_istore (lv' := [(6, .int y0), (0, .ref (gad g 0)), (1, .int x1)]) hx hb dX11_isSo_132 hl (by decide) rfl (fun ls hl => ?_)
  refine lv_goto (tgt := 160) hx hb dX11_isSo_134 (by decide) ?_
  exact k_m_isSo_b160 g C st x1 y0 H locs ls hI (lv_sub hl [1, 2, 0] rfl) X hF
def m_isSo_b152 (st : CS) (x1 : Int32) (y0 : Int32) : Int32 := (m_isSo_b160 st x1 y0)
set_option maxHeartbeats 4000000 in
set_option maxRecDepth 100000 in
theorem k_m_isSo_b152 {p : Program} {l : Launch} {e : Env} {s : State} {m : MethodId} {args : Array Value} {below : List Frame} {meth : Method} {c : Code} {A : Nat → Prop} (g : Gm) (C : cX p s m args meth c A cX11_isSo (some .boolean) 7 RX11 wq_X11_isSo (gD g) vwCl (mty g) (mz g)) (st : CS) (x1 : Int32) (y0 : Int32) (H : Heap) (locs : List Loc) (ls : Array Slot) (hI : cI (gD g) vwCl (mw g) A s st H locs) (hl : lv_has ls 7 [(0, .ref (gad g 0)), (1, .int x1)]) (X : Int32) (hF : X = m_isSo_b152 st x1 y0) : W p l e rm_m_isSo s m args below meth c H locs 0 0 (MQ below (cQi (gD g) vwCl (mty g) (mw g) A st X) args s 0 0 A) (F0 m 152 ls [.int y0]) := by
  obtain ⟨hx, hb, hr, hml, hown, hts, hlocks, hK, hA, hZ, hzo⟩ := id C
  unfold m_isSo_b152 at hF
  refine lv_istore (lv' := [(6, .int y0), (0, .ref (gad g 0)), (1, .int x1)]) hx hb dX11_isSo_152 hl (by decide) rfl (fun ls hl => ?_)
  refine lv_goto (tgt := 160) hx hb dX11_isSo_154 (by decide) ?_
  exact k_m_isSo_b160 g C st x1 y0 H locs ls hI (lv_sub hl [1, 2, 0] rfl) X hF
def m_isSo_b151 (st : CS) (x1 : Int32) : Int32 := (m_isSo_b152 st x1 (0 : Int32))
set_option maxHeartbeats 4000000 in
set_option maxRecDepth 100000 in
theorem k_m_isSo_b151 {p : Program} {l : Launch} {e : Env} {s : State} {m : MethodId} {args : Array Value} {below : List Frame} {meth : Method} {c : Code} {A : Nat → Prop} (g : Gm) (C : cX p s m args meth c A cX11_isSo (some .boolean) 7 RX11 wq_X11_isSo (gD g) vwCl (mty g) (mz g)) (st : CS) (x1 : Int32) (H : Heap) (locs : List Loc) (ls : Array Slot) (hI : cI (gD g) vwCl (mw g) A s st H locs) (hl : lv_has ls 7 [(0, .ref (gad g 0)), (1, .int x1)]) (X : Int32) (hF : X = m_isSo_b151 st x1) : W p l e rm_m_isSo s m args below meth c H locs 0 0 (MQ below (cQi (gD g) vwCl (mty g) (mw g) A st X) args s 0 0 A) (F0 m 151 ls []) := by
  obtain ⟨hx, hb, hr, hml, hown, hts, hlocks, hK, hA, hZ, hzo⟩ := id C
  unfold m_isSo_b151 at hF
  refine lv_iconst (v := (0 : Int32)) hx hb dX11_isSo_151 (by decide) ?_
  exact k_m_isSo_b152 g C st x1 (0 : Int32) H locs ls hI (lv_sub hl [0, 1] rfl) X hF
def m_isSo (st : CS) (x1 : Int32) : Int32 := (if (x1 >>> ((1 : Int32) &&& 31)) = (0 : Int32) then (m_isSo_b160 st x1 (m_is st (30 : Int32))) else (if (x1 >>> ((1 : Int32) &&& 31)) = (1 : Int32) then (m_isSo_b160 st x1 (m_is st (29 : Int32))) else (if (x1 >>> ((1 : Int32) &&& 31)) = (2 : Int32) then (m_isSo_b160 st x1 (m_is st (31 : Int32))) else (if (x1 >>> ((1 : Int32) &&& 31)) = (3 : Int32) then (m_isSo_b160 st x1 (m_is st (28 : Int32))) else (if (x1 >>> ((1 : Int32) &&& 31)) = (4 : Int32) then (if ((m_is st (29 : Int32)) = 0) then (m_isSo_b115 st x1) else (if ((m_is st (30 : Int32)) = 0) then (m_isSo_b116 st x1 (1 : Int32)) else (m_isSo_b115 st x1))) else (if (x1 >>> ((1 : Int32) &&& 31)) = (5 : Int32) then (if ((m_is st (31 : Int32)) = (m_is st (28 : Int32))) then (m_isSo_b132 st x1 (1 : Int32)) else (m_isSo_b132 st x1 (0 : Int32))) else (if (x1 >>> ((1 : Int32) &&& 31)) = (6 : Int32) then (if ((m_is st (31 : Int32)) = (m_is st (28 : Int32))) then (if ((m_is st (30 : Int32)) = 0) then (m_isSo_b152 st x1 (1 : Int32)) else (m_isSo_b151 st x1)) else (m_isSo_b151 st x1)) else (m_isSo_b160 st x1 (1 : Int32)))))))))
set_option maxHeartbeats 4000000 in
set_option maxRecDepth 100000 in
theorem k_m_isSo {p : Program} {l : Launch} {e : Env} {s : State} {m : MethodId} {args : Array Value} {below : List Frame} {meth : Method} {c : Code} {A : Nat → Prop} (g : Gm) (C : cX p s m args meth c A cX11_isSo (some .boolean) 7 RX11 wq_X11_isSo (gD g) vwCl (mty g) (mz g)) (st : CS) (x1 : Int32) (H : Heap) (locs : List Loc) (ls : Array Slot) (hI : cI (gD g) vwCl (mw g) A s st H locs) (hl : lv_has ls 7 [(0, .ref (gad g 0)), (1, .int x1)]) (X : Int32) (hF : X = m_isSo st x1) : W p l e rm_m_isSo s m args below meth c H locs 0 0 (MQ below (cQi (gD g) vwCl (mty g) (mw g) A st X) args s 0 0 A) (F0 m 0 ls []) := by
  obtain ⟨hx, hb, hr, hml, hown, hts, hlocks, hK, hA, hZ, hzo⟩ := id C
  unfold m_isSo at hF
  refine lv_aload_n hx hb dX11_isSo_0 rfl (lv_at hl 0 rfl) ?_
  refine lv_bipush (v := (31 : Int32)) hx hb dX11_isSo_1 (by decide) ?_
  refine cx_Vi (As := [.int (31 : Int32)]) (rest := []) C (c_m_is l g st (31 : Int32)) (cwV 1 hts (gd_V _ mw761 mw762 mw763 mw3 mw764) rfl rfl rfl yd_yX11_is ⟨Nat.le_of_ble_eq_true rfl, Nat.le_of_ble_eq_true rfl⟩) (va_recv hK hI.1 (ci := 11) (q0 := 0) rfl rfl) hI rfl hl.1 rfl (Nat.le_of_ble_eq_true rfl) dX11_isSo_3 (fun H locs hI => ?_)
  refine lv_istore_n (lv' := [(2, .int (m_is st (31 : Int32))), (0, .ref (gad g 0)), (1, .int x1)]) hx hb dX11_isSo_6 rfl hl (by decide) rfl (fun ls hl => ?_)
  refine lv_aload_n hx hb dX11_isSo_7 rfl (lv_at hl 1 rfl) ?_
  refine lv_bipush (v := (30 : Int32)) hx hb dX11_isSo_8 (by decide) ?_
  refine cx_Vi (As := [.int (30 : Int32)]) (rest := []) C (c_m_is l g st (30 : Int32)) (cwV 1 hts (gd_V _ mw761 mw762 mw763 mw3 mw764) rfl rfl rfl yd_yX11_is ⟨Nat.le_of_ble_eq_true rfl, Nat.le_of_ble_eq_true rfl⟩) (va_recv hK hI.1 (ci := 11) (q0 := 0) rfl rfl) hI rfl hl.1 rfl (Nat.le_of_ble_eq_true rfl) dX11_isSo_10 (fun H locs hI => ?_)
  refine lv_istore_n (lv' := [(3, .int (m_is st (30 : Int32))), (2, .int (m_is st (31 : Int32))), (0, .ref (gad g 0)), (1, .int x1)]) hx hb dX11_isSo_13 rfl hl (by decide) rfl (fun ls hl => ?_)
  refine lv_aload_n hx hb dX11_isSo_14 rfl (lv_at hl 2 rfl) ?_
  refine lv_bipush (v := (29 : Int32)) hx hb dX11_isSo_15 (by decide) ?_
  refine cx_Vi (As := [.int (29 : Int32)]) (rest := []) C (c_m_is l g st (29 : Int32)) (cwV 1 hts (gd_V _ mw761 mw762 mw763 mw3 mw764) rfl rfl rfl yd_yX11_is ⟨Nat.le_of_ble_eq_true rfl, Nat.le_of_ble_eq_true rfl⟩) (va_recv hK hI.1 (ci := 11) (q0 := 0) rfl rfl) hI rfl hl.1 rfl (Nat.le_of_ble_eq_true rfl) dX11_isSo_17 (fun H locs hI => ?_)
  refine lv_istore (lv' := [(4, .int (m_is st (29 : Int32))), (3, .int (m_is st (30 : Int32))), (2, .int (m_is st (31 : Int32))), (0, .ref (gad g 0)), (1, .int x1)]) hx hb dX11_isSo_20 hl (by decide) rfl (fun ls hl => ?_)
  refine lv_aload_n hx hb dX11_isSo_22 rfl (lv_at hl 3 rfl) ?_
  refine lv_bipush (v := (28 : Int32)) hx hb dX11_isSo_23 (by decide) ?_
  refine cx_Vi (As := [.int (28 : Int32)]) (rest := []) C (c_m_is l g st (28 : Int32)) (cwV 1 hts (gd_V _ mw761 mw762 mw763 mw3 mw764) rfl rfl rfl yd_yX11_is ⟨Nat.le_of_ble_eq_true rfl, Nat.le_of_ble_eq_true rfl⟩) (va_recv hK hI.1 (ci := 11) (q0 := 0) rfl rfl) hI rfl hl.1 rfl (Nat.le_of_ble_eq_true rfl) dX11_isSo_25 (fun H locs hI => ?_)
  refine lv_istore (lv' := [(5, .int (m_is st (28 : Int32))), (4, .int (m_is st (29 : Int32))), (3, .int (m_is st (30 : Int32))), (2, .int (m_is st (31 : Int32))), (0, .ref (gad g 0)), (1, .int x1)]) hx hb dX11_isSo_28 hl (by decide) rfl (fun ls hl => ?_)
  refine lv_iload_n hx hb dX11_isSo_30 rfl (lv_at hl 5 rfl) ?_
  refine lv_iconst (v := (1 : Int32)) hx hb dX11_isSo_31 (by decide) ?_
  refine lv_ishr hx hb dX11_isSo_32 ?_
  by_cases c_33_0 : (x1 >>> ((1 : Int32) &&& 31)) = (0 : Int32)
  · have hF := hF.trans (if_pos c_33_0)
    refine lv_tableIn (off := 43) (tgt := 76) hx hb dX11_isSo_33 (by rw [c_33_0]; decide) (by rw [c_33_0]; decide) (by rw [c_33_0]; rfl) (by decide) ?_
    refine lv_iload_n hx hb dX11_isSo_76 rfl (lv_at hl 2 rfl) ?_
    refine lv_istore (lv' := [(6, .int (m_is st (30 : Int32))), (5, .int (m_is st (28 : Int32))), (4, .int (m_is st (29 : Int32))), (3, .int (m_is st (30 : Int32))), (2, .int (m_is st (31 : Int32))), (0, .ref (gad g 0)), (1, .int x1)]) hx hb dX11_isSo_77 hl (by decide) rfl (fun ls hl => ?_)
    refine lv_goto (tgt := 160) hx hb dX11_isSo_79 (by decide) ?_
    exact k_m_isSo_b160 g C st x1 (m_is st (30 : Int32)) H locs ls hI (lv_sub hl [5, 6, 0] rfl) X hF
  · have hF := hF.trans (if_neg c_33_0)
    by_cases c_33_1 : (x1 >>> ((1 : Int32) &&& 31)) = (1 : Int32)
    · have hF := hF.trans (if_pos c_33_1)
      refine lv_tableIn (off := 49) (tgt := 82) hx hb dX11_isSo_33 (by rw [c_33_1]; decide) (by rw [c_33_1]; decide) (by rw [c_33_1]; rfl) (by decide) ?_
      refine lv_iload hx hb dX11_isSo_82 (lv_at hl 1 rfl) ?_
      refine lv_istore (lv' := [(6, .int (m_is st (29 : Int32))), (5, .int (m_is st (28 : Int32))), (4, .int (m_is st (29 : Int32))), (3, .int (m_is st (30 : Int32))), (2, .int (m_is st (31 : Int32))), (0, .ref (gad g 0)), (1, .int x1)]) hx hb dX11_isSo_84 hl (by decide) rfl (fun ls hl => ?_)
      refine lv_goto (tgt := 160) hx hb dX11_isSo_86 (by decide) ?_
      exact k_m_isSo_b160 g C st x1 (m_is st (29 : Int32)) H locs ls hI (lv_sub hl [5, 6, 0] rfl) X hF
    · have hF := hF.trans (if_neg c_33_1)
      by_cases c_33_2 : (x1 >>> ((1 : Int32) &&& 31)) = (2 : Int32)
      · have hF := hF.trans (if_pos c_33_2)
        refine lv_tableIn (off := 56) (tgt := 89) hx hb dX11_isSo_33 (by rw [c_33_2]; decide) (by rw [c_33_2]; decide) (by rw [c_33_2]; rfl) (by decide) ?_
        refine lv_iload_n hx hb dX11_isSo_89 rfl (lv_at hl 3 rfl) ?_
        refine lv_istore (lv' := [(6, .int (m_is st (31 : Int32))), (5, .int (m_is st (28 : Int32))), (4, .int (m_is st (29 : Int32))), (3, .int (m_is st (30 : Int32))), (2, .int (m_is st (31 : Int32))), (0, .ref (gad g 0)), (1, .int x1)]) hx hb dX11_isSo_90 hl (by decide) rfl (fun ls hl => ?_)
        refine lv_goto (tgt := 160) hx hb dX11_isSo_92 (by decide) ?_
        exact k_m_isSo_b160 g C st x1 (m_is st (31 : Int32)) H locs ls hI (lv_sub hl [5, 6, 0] rfl) X hF
      · have hF := hF.trans (if_neg c_33_2)
        by_cases c_33_3 : (x1 >>> ((1 : Int32) &&& 31)) = (3 : Int32)
        · have hF := hF.trans (if_pos c_33_3)
          refine lv_tableIn (off := 62) (tgt := 95) hx hb dX11_isSo_33 (by rw [c_33_3]; decide) (by rw [c_33_3]; decide) (by rw [c_33_3]; rfl) (by decide) ?_
          refine lv_iload hx hb dX11_isSo_95 (lv_at hl 0 rfl) ?_
          refine lv_istore (lv' := [(6, .int (m_is st (28 : Int32))), (5, .int (m_is st (28 : Int32))), (4, .int (m_is st (29 : Int32))), (3, .int (m_is st (30 : Int32))), (2, .int (m_is st (31 : Int32))), (0, .ref (gad g 0)), (1, .int x1)]) hx hb dX11_isSo_97 hl (by decide) rfl (fun ls hl => ?_)
          refine lv_goto (tgt := 160) hx hb dX11_isSo_99 (by decide) ?_
          exact k_m_isSo_b160 g C st x1 (m_is st (28 : Int32)) H locs ls hI (lv_sub hl [5, 6, 0] rfl) X hF
        · have hF := hF.trans (if_neg c_33_3)
          by_cases c_33_4 : (x1 >>> ((1 : Int32) &&& 31)) = (4 : Int32)
          · have hF := hF.trans (if_pos c_33_4)
            refine lv_tableIn (off := 69) (tgt := 102) hx hb dX11_isSo_33 (by rw [c_33_4]; decide) (by rw [c_33_4]; decide) (by rw [c_33_4]; rfl) (by decide) ?_
            refine lv_iload hx hb dX11_isSo_102 (lv_at hl 1 rfl) ?_
            refine lv_if_eq (tgt := 115) hx hb dX11_isSo_104 (by decide) (fun c_104 => ?_) (fun c_104 => ?_)
            · have hF := hF.trans (if_pos c_104)
              exact k_m_isSo_b115 g C st x1 H locs ls hI (lv_sub hl [4, 5] rfl) X hF
            · have hF := hF.trans (if_neg c_104)
              refine lv_iload_n hx hb dX11_isSo_107 rfl (lv_at hl 2 rfl) ?_
              refine lv_if_ne (tgt := 115) hx hb dX11_isSo_108 (by decide) (fun c_108 => ?_) (fun c_108 => ?_)
              · have hF := hF.trans (if_neg c_108)
                exact k_m_isSo_b115 g C st x1 H locs ls hI (lv_sub hl [4, 5] rfl) X hF
              · have hF := hF.trans (if_pos c_108)
                refine lv_iconst (v := (1 : Int32)) hx hb dX11_isSo_111 (by decide) ?_
                refine lv_goto (tgt := 116) hx hb dX11_isSo_112 (by decide) ?_
                exact k_m_isSo_b116 g C st x1 (1 : Int32) H locs ls hI (lv_sub hl [4, 5] rfl) X hF
          · have hF := hF.trans (if_neg c_33_4)
            by_cases c_33_5 : (x1 >>> ((1 : Int32) &&& 31)) = (5 : Int32)
            · have hF := hF.trans (if_pos c_33_5)
              refine lv_tableIn (off := 88) (tgt := 121) hx hb dX11_isSo_33 (by rw [c_33_5]; decide) (by rw [c_33_5]; decide) (by rw [c_33_5]; rfl) (by decide) ?_
              refine lv_iload_n hx hb dX11_isSo_121 rfl (lv_at hl 3 rfl) ?_
              refine lv_iload hx hb dX11_isSo_122 (lv_at hl 0 rfl) ?_
              refine lv_icmp_ne (tgt := 131) hx hb dX11_isSo_124 (by decide) (fun c_124 => ?_) (fun c_124 => ?_)
              · have hF := hF.trans (if_neg c_124)
                refine lv_iconst (v := (0 : Int32)) hx hb dX11_isSo_131 (by decide) ?_
                exact k_m_isSo_b132 g C st x1 (0 : Int32) H locs ls hI (lv_sub hl [4, 5] rfl) X hF
              · have hF := hF.trans (if_pos c_124)
                refine lv_iconst (v := (1 : Int32)) hx hb dX11_isSo_127 (by decide) ?_
                refine lv_goto (tgt := 132) hx hb dX11_isSo_128 (by decide) ?_
                exact k_m_isSo_b132 g C st x1 (1 : Int32) H locs ls hI (lv_sub hl [4, 5] rfl) X hF
            · have hF := hF.trans (if_neg c_33_5)
              by_cases c_33_6 : (x1 >>> ((1 : Int32) &&& 31)) = (6 : Int32)
              · have hF := hF.trans (if_pos c_33_6)
                refine lv_tableIn (off := 104) (tgt := 137) hx hb dX11_isSo_33 (by rw [c_33_6]; decide) (by rw [c_33_6]; decide) (by rw [c_33_6]; rfl) (by decide) ?_
                refine lv_iload_n hx hb dX11_isSo_137 rfl (lv_at hl 3 rfl) ?_
                refine lv_iload hx hb dX11_isSo_138 (lv_at hl 0 rfl) ?_
                refine lv_icmp_ne (tgt := 151) hx hb dX11_isSo_140 (by decide) (fun c_140 => ?_) (fun c_140 => ?_)
                · have hF := hF.trans (if_neg c_140)
                  exact k_m_isSo_b151 g C st x1 H locs ls hI (lv_sub hl [4, 5] rfl) X hF
                · have hF := hF.trans (if_pos c_140)
                  refine lv_iload_n hx hb dX11_isSo_143 rfl (lv_at hl 2 rfl) ?_
                  refine lv_if_ne (tgt := 151) hx hb dX11_isSo_144 (by decide) (fun c_144 => ?_) (fun c_144 => ?_)
                  · have hF := hF.trans (if_neg c_144)
                    exact k_m_isSo_b151 g C st x1 H locs ls hI (lv_sub hl [4, 5] rfl) X hF
                  · have hF := hF.trans (if_pos c_144)
                    refine lv_iconst (v := (1 : Int32)) hx hb dX11_isSo_147 (by decide) ?_
                    refine lv_goto (tgt := 152) hx hb dX11_isSo_148 (by decide) ?_
                    exact k_m_isSo_b152 g C st x1 (1 : Int32) H locs ls hI (lv_sub hl [4, 5] rfl) X hF
              · have hF := hF.trans (if_neg c_33_6)
                refine lv_tableOut (tgt := 157) hx hb dX11_isSo_33 (by have h0 := lv_neT (a := 0) c_33_0 (by decide); have h1 := lv_neT (a := 1) c_33_1 (by decide); have h2 := lv_neT (a := 2) c_33_2 (by decide); have h3 := lv_neT (a := 3) c_33_3 (by decide); have h4 := lv_neT (a := 4) c_33_4 (by decide); have h5 := lv_neT (a := 5) c_33_5 (by decide); have h6 := lv_neT (a := 6) c_33_6 (by decide); omega) (by decide) ?_
                refine lv_iconst (v := (1 : Int32)) hx hb dX11_isSo_157 (by decide) ?_
                refine lv_istore (lv' := [(6, .int (1 : Int32)), (5, .int (m_is st (28 : Int32))), (4, .int (m_is st (29 : Int32))), (3, .int (m_is st (30 : Int32))), (2, .int (m_is st (31 : Int32))), (0, .ref (gad g 0)), (1, .int x1)]) hx hb dX11_isSo_158 hl (by decide) rfl (fun ls hl => ?_)
                exact k_m_isSo_b160 g C st x1 (1 : Int32) H locs ls hI (lv_sub hl [5, 6, 0] rfl) X hF
set_option maxHeartbeats 4000000 in
set_option maxRecDepth 100000 in
theorem c_m_isSo (l : Launch) (g : Gm) (st : CS) (x1 : Int32) : Mi l yX11_isSo wq_X11_isSo rm_m_isSo (gD g) vwCl (mty g) (mw g) (mz g) [.ref (gad g 0), .int x1] st st (m_isSo st x1) := by
  intro sz
  refine Met.ofW (cc := cX11_isSo) (maxL := 7) (ret := (some .boolean)) (by decide) rfl ?_
  intro p e s m args below meth c s₁ B hml hv
  obtain ⟨rfl, hsz, hP, hK, hD0, hZ⟩ := hv
  subst hsz
  have hl := lv_entry ([.ref (gad g 0), .int x1]) (n := 7) (Nat.le_of_ble_eq_true rfl)
  rw [lg_entry_eq]
  generalize (lg_sl ([.ref (gad g 0), .int x1]) ++ List.replicate (7 - (lg_sl ([.ref (gad g 0), .int x1])).length) Slot.unset).toArray = ls at hl ⊢
  exact k_m_isSo g ⟨B.exec, B.bytes, B.returns, hml, findClass_of_methodNamed B.named, atoms_spec (ws := wq_X11_isSo) B.pre, B.notSynchronized, hK, fun q h => Or.inr h, hZ, mz_ok g⟩ st x1 _ _ ls ⟨hP, hD0.self, va_S.rf⟩ hl _ rfl
abbrev wq_X11_multiply : List Cond := .code yX11_multiply cX11_multiply 7 (some .int) :: wAll
theorem yd_yX11_multiply : yX11_multiply.cls = RX11 ∧ yX11_multiply.cls ≠ "java/lang/invoke/MethodHandle" ∧ yX11_multiply.cls ≠ "java/lang/invoke/VarHandle" ∧ (parseMethodDescriptor yX11_multiply.desc).map (fun d => d.parameters.length) = some 1 := by decide +kernel
abbrev rm_m_multiply : Room := { frames := 3, cells := 0, slots := 0, locals := 64 }
def m_multiply_b144 (rec : CS → Int32 → Int32 → Int32 → Option (CS × Int32)) (st : CS) (x2 : Int32) (x5 : Int32) (x6 : Int32) : Option (CS × Int32) := (rec st x2 x5 (x6 + (2 : Int32)))
def o_m_multiply_b144 (orec : CS → Int32 → Int32 → Int32 → Prop) (st : CS) (x2 : Int32) (x5 : Int32) (x6 : Int32) : Prop := (orec st x2 x5 (x6 + (2 : Int32)))
set_option maxHeartbeats 4000000 in
set_option maxRecDepth 100000 in
theorem k_m_multiply_b144 {p : Program} {l : Launch} {e : Env} {s : State} {m : MethodId} {args : Array Value} {below : List Frame} {meth : Method} {c : Code} {A : Nat → Prop} (g : Gm) (C : cX p s m args meth c A cX11_multiply (some .int) 7 RX11 wq_X11_multiply (gD g) vwCl (mty g) (mz g)) (rec : CS → Int32 → Int32 → Int32 → Option (CS × Int32)) (orec : CS → Int32 → Int32 → Int32 → Prop) (hrec : ∀ (st : CS) (x2 : Int32) (x5 : Int32) (x6 : Int32) (H : Heap) (locs : List Loc) (ls : Array Slot), cI (gD g) vwCl (mw g) A s st H locs → lv_has ls 7 [(0, .ref (gad g 0)), (2, .int x2), (5, .int x5), (6, .int x6)] → orec st x2 x5 x6 → ∀ (X : CS × Int32), some X = rec st x2 x5 x6 → W p l e rm_m_multiply s m args below meth c H locs 0 0 (MQ below (cQi (gD g) vwCl (mty g) (mw g) A X.1 X.2) args s 0 0 A) (F0 m 122 ls [])) (st : CS) (x2 : Int32) (x5 : Int32) (x6 : Int32) (H : Heap) (locs : List Loc) (ls : Array Slot) (hI : cI (gD g) vwCl (mw g) A s st H locs) (hl : lv_has ls 7 [(0, .ref (gad g 0)), (2, .int x2), (5, .int x5), (6, .int x6)]) (hO : o_m_multiply_b144 orec st x2 x5 x6) (X : CS × Int32) (hF : some X = m_multiply_b144 rec st x2 x5 x6) : W p l e rm_m_multiply s m args below meth c H locs 0 0 (MQ below (cQi (gD g) vwCl (mty g) (mw g) A X.1 X.2) args s 0 0 A) (F0 m 144 ls []) := by
  obtain ⟨hx, hb, hr, hml, hown, hts, hlocks, hK, hA, hZ, hzo⟩ := id C
  unfold m_multiply_b144 at hF
  unfold o_m_multiply_b144 at hO
  refine lv_iinc (v := (x6 + (2 : Int32))) (lv' := [(6, .int (x6 + (2 : Int32))), (0, .ref (gad g 0)), (2, .int x2), (5, .int x5)]) hx hb dX11_multiply_144 hl (k := 3) rfl rfl (by decide) rfl (fun ls hl => ?_)
  refine lv_goto (tgt := 122) hx hb dX11_multiply_147 (by decide) ?_
  exact hrec st x2 x5 (x6 + (2 : Int32)) H locs ls hI (lv_sub hl [1, 2, 3, 0] rfl) hO X hF
def m_multiply_b122 : Nat → CS → Int32 → Int32 → Int32 → Option (CS × Int32)
  | 0, _, _, _, _ => none
  | n + 1, st, x2, x5, x6 => (if ((32 : Int32) ≤ x6) then (some (st, ((1 : Int32) + x5))) else (if ((ushr x2 x6) = 0) then (m_multiply_b144 (m_multiply_b122 n) st x2 x5 x6) else (m_multiply_b144 (m_multiply_b122 n) st x2 ((x6 / (2 : Int32)) + (1 : Int32)) x6)))
def o_m_multiply_b122 : Nat → CS → Int32 → Int32 → Int32 → Prop
  | 0, _, _, _, _ => True
  | n + 1, st, x2, x5, x6 => ((((32 : Int32) ≤ x6) → True) ∧ (¬ ((32 : Int32) ≤ x6) → ((((ushr x2 x6) = 0) → (o_m_multiply_b144 (o_m_multiply_b122 n) st x2 x5 x6)) ∧ (¬ ((ushr x2 x6) = 0) → (o_m_multiply_b144 (o_m_multiply_b122 n) st x2 ((x6 / (2 : Int32)) + (1 : Int32)) x6)))))
set_option maxHeartbeats 4000000 in
set_option maxRecDepth 100000 in
theorem k_m_multiply_b122 {p : Program} {l : Launch} {e : Env} {s : State} {m : MethodId} {args : Array Value} {below : List Frame} {meth : Method} {c : Code} {A : Nat → Prop} (g : Gm) (C : cX p s m args meth c A cX11_multiply (some .int) 7 RX11 wq_X11_multiply (gD g) vwCl (mty g) (mz g)) : ∀ (n : Nat) (st : CS) (x2 : Int32) (x5 : Int32) (x6 : Int32) (H : Heap) (locs : List Loc) (ls : Array Slot), cI (gD g) vwCl (mw g) A s st H locs → lv_has ls 7 [(0, .ref (gad g 0)), (2, .int x2), (5, .int x5), (6, .int x6)] → o_m_multiply_b122 n st x2 x5 x6 → ∀ (X : CS × Int32), some X = m_multiply_b122 n st x2 x5 x6 → W p l e rm_m_multiply s m args below meth c H locs 0 0 (MQ below (cQi (gD g) vwCl (mty g) (mw g) A X.1 X.2) args s 0 0 A) (F0 m 122 ls []) := by
  obtain ⟨hx, hb, hr, hml, hown, hts, hlocks, hK, hA, hZ, hzo⟩ := id C
  intro n
  induction n with
  | zero => intro st x2 x5 x6 H locs ls hI hl hO X hF; exact absurd hF (by simp [m_multiply_b122])
  | succ n ih =>
    intro st x2 x5 x6 H locs ls hI hl hO X hF
    rw [m_multiply_b122] at hF
    rw [o_m_multiply_b122] at hO
    refine lv_iload hx hb dX11_multiply_122 (lv_at hl 3 rfl) ?_
    refine lv_bipush (v := (32 : Int32)) hx hb dX11_multiply_124 (by decide) ?_
    refine lv_icmp_ge (tgt := 150) hx hb dX11_multiply_126 (by decide) (fun c_126 => ?_) (fun c_126 => ?_)
    · have hF := hF.trans (if_pos c_126)
      have hO := hO.1 c_126
      refine lv_iconst (v := (1 : Int32)) hx hb dX11_multiply_150 (by decide) ?_
      refine lv_iload hx hb dX11_multiply_151 (lv_at hl 2 rfl) ?_
      refine lv_iadd hx hb dX11_multiply_153 ?_
      have hF := Option.some.inj hF
      exact cx_iret C hI (congrArg Prod.fst hF) (congrArg Prod.snd hF) dX11_multiply_154
    · have hF := hF.trans (if_neg c_126)
      have hO := hO.2 c_126
      refine lv_iload_n hx hb dX11_multiply_129 rfl (lv_at hl 1 rfl) ?_
      refine lv_iload hx hb dX11_multiply_130 (lv_at hl 3 rfl) ?_
      refine lv_iushr (v := (ushr x2 x6)) hx hb dX11_multiply_132 rfl ?_
      refine lv_if_eq (tgt := 144) hx hb dX11_multiply_133 (by decide) (fun c_133 => ?_) (fun c_133 => ?_)
      · have hF := hF.trans (if_pos c_133)
        have hO := hO.1 c_133
        exact k_m_multiply_b144 g C (m_multiply_b122 n) (o_m_multiply_b122 n) ih st x2 x5 x6 H locs ls hI (lv_sub hl [0, 1, 2, 3] rfl) hO X hF
      · have hF := hF.trans (if_neg c_133)
        have hO := hO.2 c_133
        refine lv_iload hx hb dX11_multiply_136 (lv_at hl 3 rfl) ?_
        refine lv_iconst (v := (2 : Int32)) hx hb dX11_multiply_138 (by decide) ?_
        refine lv_idiv hx hb dX11_multiply_139 (by decide) ?_
        refine lv_iconst (v := (1 : Int32)) hx hb dX11_multiply_140 (by decide) ?_
        refine lv_iadd hx hb dX11_multiply_141 ?_
        refine lv_istore (lv' := [(5, .int ((x6 / (2 : Int32)) + (1 : Int32))), (0, .ref (gad g 0)), (2, .int x2), (6, .int x6)]) hx hb dX11_multiply_142 hl (by decide) rfl (fun ls hl => ?_)
        exact k_m_multiply_b144 g C (m_multiply_b122 n) (o_m_multiply_b122 n) ih st x2 ((x6 / (2 : Int32)) + (1 : Int32)) x6 H locs ls hI (lv_sub hl [1, 2, 0, 3] rfl) hO X hF
def m_multiply_b122t (st : CS) (x2 : Int32) (x5 : Int32) (x6 : Int32) : CS × Int32 := (m_multiply_b122 (16) st x2 x5 x6).getD (st, 0)
def o_m_multiply_b122t (st : CS) (x2 : Int32) (x5 : Int32) (x6 : Int32) : Prop := o_m_multiply_b122 (16) st x2 x5 x6 ∧ ∃ r, m_multiply_b122 (16) st x2 x5 x6 = some r
set_option maxHeartbeats 4000000 in
set_option maxRecDepth 100000 in
theorem k_m_multiply_b122t {p : Program} {l : Launch} {e : Env} {s : State} {m : MethodId} {args : Array Value} {below : List Frame} {meth : Method} {c : Code} {A : Nat → Prop} (g : Gm) (C : cX p s m args meth c A cX11_multiply (some .int) 7 RX11 wq_X11_multiply (gD g) vwCl (mty g) (mz g)) (st : CS) (x2 : Int32) (x5 : Int32) (x6 : Int32) (H : Heap) (locs : List Loc) (ls : Array Slot) (hI : cI (gD g) vwCl (mw g) A s st H locs) (hl : lv_has ls 7 [(0, .ref (gad g 0)), (2, .int x2), (5, .int x5), (6, .int x6)]) (hO : o_m_multiply_b122t st x2 x5 x6) (X : CS × Int32) (hF : X = m_multiply_b122t st x2 x5 x6) : W p l e rm_m_multiply s m args below meth c H locs 0 0 (MQ below (cQi (gD g) vwCl (mty g) (mw g) A X.1 X.2) args s 0 0 A) (F0 m 122 ls []) := by
  refine k_m_multiply_b122 g C (16) st x2 x5 x6 H locs ls hI hl hO.1 X ?_
  rw [hF]
  exact some_getD hO.2
def m_multiply_b116 (st : CS) (x2 : Int32) : CS × Int32 := (m_multiply_b122t st x2 (1 : Int32) (2 : Int32))
def o_m_multiply_b116 (st : CS) (x2 : Int32) : Prop := (o_m_multiply_b122t st x2 (1 : Int32) (2 : Int32))
set_option maxHeartbeats 4000000 in
set_option maxRecDepth 100000 in
theorem k_m_multiply_b116 {p : Program} {l : Launch} {e : Env} {s : State} {m : MethodId} {args : Array Value} {below : List Frame} {meth : Method} {c : Code} {A : Nat → Prop} (g : Gm) (C : cX p s m args meth c A cX11_multiply (some .int) 7 RX11 wq_X11_multiply (gD g) vwCl (mty g) (mz g)) (st : CS) (x2 : Int32) (H : Heap) (locs : List Loc) (ls : Array Slot) (hI : cI (gD g) vwCl (mw g) A s st H locs) (hl : lv_has ls 7 [(0, .ref (gad g 0)), (2, .int x2)]) (hO : o_m_multiply_b116 st x2) (X : CS × Int32) (hF : X = m_multiply_b116 st x2) : W p l e rm_m_multiply s m args below meth c H locs 0 0 (MQ below (cQi (gD g) vwCl (mty g) (mw g) A X.1 X.2) args s 0 0 A) (F0 m 116 ls []) := by
  obtain ⟨hx, hb, hr, hml, hown, hts, hlocks, hK, hA, hZ, hzo⟩ := id C
  unfold m_multiply_b116 at hF
  unfold o_m_multiply_b116 at hO
  refine lv_iconst (v := (1 : Int32)) hx hb dX11_multiply_116 (by decide) ?_
  refine lv_istore (lv' := [(5, .int (1 : Int32)), (0, .ref (gad g 0)), (2, .int x2)]) hx hb dX11_multiply_117 hl (by decide) rfl (fun ls hl => ?_)
  refine lv_iconst (v := (2 : Int32)) hx hb dX11_multiply_119 (by decide) ?_
  refine lv_istore (lv' := [(6, .int (2 : Int32)), (5, .int (1 : Int32)), (0, .ref (gad g 0)), (2, .int x2)]) hx hb dX11_multiply_120 hl (by decide) rfl (fun ls hl => ?_)
  exact k_m_multiply_b122t g C st x2 (1 : Int32) (2 : Int32) H locs ls hI (lv_sub hl [2, 3, 1, 0] rfl) hO X hF
def m_multiply_b113 (st : CS) (x2 : Int32) (y1 : Int32) (y0 : Int32) : CS × Int32 := (m_multiply_b116 (m_set st y1 y0) x2)
def o_m_multiply_b113 (st : CS) (x2 : Int32) (y1 : Int32) (y0 : Int32) : Prop := (o_m_multiply_b116 (m_set st y1 y0) x2)
set_option maxHeartbeats 4000000 in
set_option maxRecDepth 100000 in
theorem k_m_multiply_b113 {p : Program} {l : Launch} {e : Env} {s : State} {m : MethodId} {args : Array Value} {below : List Frame} {meth : Method} {c : Code} {A : Nat → Prop} (g : Gm) (C : cX p s m args meth c A cX11_multiply (some .int) 7 RX11 wq_X11_multiply (gD g) vwCl (mty g) (mz g)) (st : CS) (x2 : Int32) (y1 : Int32) (y0 : Int32) (H : Heap) (locs : List Loc) (ls : Array Slot) (hI : cI (gD g) vwCl (mw g) A s st H locs) (hl : lv_has ls 7 [(0, .ref (gad g 0)), (2, .int x2)]) (hO : o_m_multiply_b113 st x2 y1 y0) (X : CS × Int32) (hF : X = m_multiply_b113 st x2 y1 y0) : W p l e rm_m_multiply s m args below meth c H locs 0 0 (MQ below (cQi (gD g) vwCl (mty g) (mw g) A X.1 X.2) args s 0 0 A) (F0 m 113 ls [.int y0, .int y1, .ref (gad g 0)]) := by
  obtain ⟨hx, hb, hr, hml, hown, hts, hlocks, hK, hA, hZ, hzo⟩ := id C
  unfold m_multiply_b113 at hF
  unfold o_m_multiply_b113 at hO
  refine cx_Vv (As := [.int y1, .int y0]) (rest := []) C (c_m_set l g st y1 y0) (cwV 2 hts (gd_V _ mw773 mw774 mw775 mw3 mw776) rfl rfl rfl yd_yX11_set ⟨Nat.le_of_ble_eq_true rfl, Nat.le_of_ble_eq_true rfl⟩) (va_recv hK hI.1 (ci := 11) (q0 := 0) rfl rfl) hI rfl hl.1 rfl (Nat.le_of_ble_eq_true rfl) dX11_multiply_113 (fun H locs hI => ?_)
  exact k_m_multiply_b116 g C (m_set st y1 y0) x2 H locs ls hI (lv_sub hl [0, 1] rfl) hO X hF
def m_multiply_b101 (st : CS) (x2 : Int32) (x3 : Int32) : CS × Int32 := (if (x3 = 0) then (m_multiply_b113 st x2 (30 : Int32) (1 : Int32)) else (m_multiply_b113 st x2 (30 : Int32) (0 : Int32)))
def o_m_multiply_b101 (st : CS) (x2 : Int32) (x3 : Int32) : Prop := (((x3 = 0) → (o_m_multiply_b113 st x2 (30 : Int32) (1 : Int32))) ∧ (¬ (x3 = 0) → (o_m_multiply_b113 st x2 (30 : Int32) (0 : Int32))))
set_option maxHeartbeats 4000000 in
set_option maxRecDepth 100000 in
theorem k_m_multiply_b101 {p : Program} {l : Launch} {e : Env} {s : State} {m : MethodId} {args : Array Value} {below : List Frame} {meth : Method} {c : Code} {A : Nat → Prop} (g : Gm) (C : cX p s m args meth c A cX11_multiply (some .int) 7 RX11 wq_X11_multiply (gD g) vwCl (mty g) (mz g)) (st : CS) (x2 : Int32) (x3 : Int32) (H : Heap) (locs : List Loc) (ls : Array Slot) (hI : cI (gD g) vwCl (mw g) A s st H locs) (hl : lv_has ls 7 [(0, .ref (gad g 0)), (2, .int x2), (3, .int x3)]) (hO : o_m_multiply_b101 st x2 x3) (X : CS × Int32) (hF : X = m_multiply_b101 st x2 x3) : W p l e rm_m_multiply s m args below meth c H locs 0 0 (MQ below (cQi (gD g) vwCl (mty g) (mw g) A X.1 X.2) args s 0 0 A) (F0 m 101 ls []) := by
  obtain ⟨hx, hb, hr, hml, hown, hts, hlocks, hK, hA, hZ, hzo⟩ := id C
  unfold m_multiply_b101 at hF
  unfold o_m_multiply_b101 at hO
  refine lv_aload_n hx hb dX11_multiply_101 rfl (lv_at hl 0 rfl) ?_
  refine lv_bipush (v := (30 : Int32)) hx hb dX11_multiply_102 (by decide) ?_
  refine lv_iload_n hx hb dX11_multiply_104 rfl (lv_at hl 2 rfl) ?_
  refine lv_if_ne (tgt := 112) hx hb dX11_multiply_105 (by decide) (fun c_105 => ?_) (fun c_105 => ?_)
  · have hF := hF.trans (if_neg c_105)
    have hO := hO.2 c_105
    refine lv_iconst (v := (0 : Int32)) hx hb dX11_multiply_112 (by decide) ?_
    exact k_m_multiply_b113 g C st x2 (30 : Int32) (0 : Int32) H locs ls hI (lv_sub hl [0, 1] rfl) hO X hF
  · have hF := hF.trans (if_pos c_105)
    have hO := hO.1 c_105
    refine lv_iconst (v := (1 : Int32)) hx hb dX11_multiply_108 (by decide) ?_
    refine lv_goto (tgt := 113) hx hb dX11_multiply_109 (by decide) ?_
    exact k_m_multiply_b113 g C st x2 (30 : Int32) (1 : Int32) H locs ls hI (lv_sub hl [0, 1] rfl) hO X hF
def m_multiply_b98 (st : CS) (x2 : Int32) (x3 : Int32) (y1 : Int32) (y0 : Int32) : CS × Int32 := (m_multiply_b101 (m_set st y1 y0) x2 x3)
def o_m_multiply_b98 (st : CS) (x2 : Int32) (x3 : Int32) (y1 : Int32) (y0 : Int32) : Prop := (o_m_multiply_b101 (m_set st y1 y0) x2 x3)
set_option maxHeartbeats 4000000 in
set_option maxRecDepth 100000 in
theorem k_m_multiply_b98 {p : Program} {l : Launch} {e : Env} {s : State} {m : MethodId} {args : Array Value} {below : List Frame} {meth : Method} {c : Code} {A : Nat → Prop} (g : Gm) (C : cX p s m args meth c A cX11_multiply (some .int) 7 RX11 wq_X11_multiply (gD g) vwCl (mty g) (mz g)) (st : CS) (x2 : Int32) (x3 : Int32) (y1 : Int32) (y0 : Int32) (H : Heap) (locs : List Loc) (ls : Array Slot) (hI : cI (gD g) vwCl (mw g) A s st H locs) (hl : lv_has ls 7 [(0, .ref (gad g 0)), (2, .int x2), (3, .int x3)]) (hO : o_m_multiply_b98 st x2 x3 y1 y0) (X : CS × Int32) (hF : X = m_multiply_b98 st x2 x3 y1 y0) : W p l e rm_m_multiply s m args below meth c H locs 0 0 (MQ below (cQi (gD g) vwCl (mty g) (mw g) A X.1 X.2) args s 0 0 A) (F0 m 98 ls [.int y0, .int y1, .ref (gad g 0)]) := by
  obtain ⟨hx, hb, hr, hml, hown, hts, hlocks, hK, hA, hZ, hzo⟩ := id C
  unfold m_multiply_b98 at hF
  unfold o_m_multiply_b98 at hO
  refine cx_Vv (As := [.int y1, .int y0]) (rest := []) C (c_m_set l g st y1 y0) (cwV 2 hts (gd_V _ mw773 mw774 mw775 mw3 mw776) rfl rfl rfl yd_yX11_set ⟨Nat.le_of_ble_eq_true rfl, Nat.le_of_ble_eq_true rfl⟩) (va_recv hK hI.1 (ci := 11) (q0 := 0) rfl rfl) hI rfl hl.1 rfl (Nat.le_of_ble_eq_true rfl) dX11_multiply_98 (fun H locs hI => ?_)
  exact k_m_multiply_b101 g C (m_set st y1 y0) x2 x3 H locs ls hI (lv_sub hl [0, 1, 2] rfl) hO X hF
def m_multiply_b76 (st : CS) (x1 : Int32) (x2 : Int32) (x3 : Int32) : CS × Int32 := (if (((x1 >>> ((20 : Int32) &&& 31)) &&& (1 : Int32)) = (1 : Int32)) then (if (0 ≤ x3) then (m_multiply_b98 st x2 x3 (31 : Int32) (0 : Int32)) else (m_multiply_b98 st x2 x3 (31 : Int32) (1 : Int32))) else (m_multiply_b116 st x2))
def o_m_multiply_b76 (st : CS) (x1 : Int32) (x2 : Int32) (x3 : Int32) : Prop := (((((x1 >>> ((20 : Int32) &&& 31)) &&& (1 : Int32)) = (1 : Int32)) → (((0 ≤ x3) → (o_m_multiply_b98 st x2 x3 (31 : Int32) (0 : Int32))) ∧ (¬ (0 ≤ x3) → (o_m_multiply_b98 st x2 x3 (31 : Int32) (1 : Int32))))) ∧ (¬ (((x1 >>> ((20 : Int32) &&& 31)) &&& (1 : Int32)) = (1 : Int32)) → (o_m_multiply_b116 st x2)))
set_option maxHeartbeats 4000000 in
set_option maxRecDepth 100000 in
theorem k_m_multiply_b76 {p : Program} {l : Launch} {e : Env} {s : State} {m : MethodId} {args : Array Value} {below : List Frame} {meth : Method} {c : Code} {A : Nat → Prop} (g : Gm) (C : cX p s m args meth c A cX11_multiply (some .int) 7 RX11 wq_X11_multiply (gD g) vwCl (mty g) (mz g)) (st : CS) (x1 : Int32) (x2 : Int32) (x3 : Int32) (H : Heap) (locs : List Loc) (ls : Array Slot) (hI : cI (gD g) vwCl (mw g) A s st H locs) (hl : lv_has ls 7 [(0, .ref (gad g 0)), (1, .int x1), (2, .int x2), (3, .int x3)]) (hO : o_m_multiply_b76 st x1 x2 x3) (X : CS × Int32) (hF : X = m_multiply_b76 st x1 x2 x3) : W p l e rm_m_multiply s m args below meth c H locs 0 0 (MQ below (cQi (gD g) vwCl (mty g) (mw g) A X.1 X.2) args s 0 0 A) (F0 m 76 ls []) := by
  obtain ⟨hx, hb, hr, hml, hown, hts, hlocks, hK, hA, hZ, hzo⟩ := id C
  unfold m_multiply_b76 at hF
  unfold o_m_multiply_b76 at hO
  refine lv_iload_n hx hb dX11_multiply_76 rfl (lv_at hl 1 rfl) ?_
  refine lv_bipush (v := (20 : Int32)) hx hb dX11_multiply_77 (by decide) ?_
  refine lv_ishr hx hb dX11_multiply_79 ?_
  refine lv_iconst (v := (1 : Int32)) hx hb dX11_multiply_80 (by decide) ?_
  refine lv_iand hx hb dX11_multiply_81 ?_
  refine lv_iconst (v := (1 : Int32)) hx hb dX11_multiply_82 (by decide) ?_
  refine lv_icmp_ne (tgt := 116) hx hb dX11_multiply_83 (by decide) (fun c_83 => ?_) (fun c_83 => ?_)
  · have hF := hF.trans (if_neg c_83)
    have hO := hO.2 c_83
    exact k_m_multiply_b116 g C st x2 H locs ls hI (lv_sub hl [0, 2] rfl) hO X hF
  · have hF := hF.trans (if_pos c_83)
    have hO := hO.1 c_83
    refine lv_aload_n hx hb dX11_multiply_86 rfl (lv_at hl 0 rfl) ?_
    refine lv_bipush (v := (31 : Int32)) hx hb dX11_multiply_87 (by decide) ?_
    refine lv_iload_n hx hb dX11_multiply_89 rfl (lv_at hl 3 rfl) ?_
    refine lv_if_ge (tgt := 97) hx hb dX11_multiply_90 (by decide) (fun c_90 => ?_) (fun c_90 => ?_)
    · have hF := hF.trans (if_pos c_90)
      have hO := hO.1 c_90
      refine lv_iconst (v := (0 : Int32)) hx hb dX11_multiply_97 (by decide) ?_
      exact k_m_multiply_b98 g C st x2 x3 (31 : Int32) (0 : Int32) H locs ls hI (lv_sub hl [0, 2, 3] rfl) hO X hF
    · have hF := hF.trans (if_neg c_90)
      have hO := hO.2 c_90
      refine lv_iconst (v := (1 : Int32)) hx hb dX11_multiply_93 (by decide) ?_
      refine lv_goto (tgt := 98) hx hb dX11_multiply_94 (by decide) ?_
      exact k_m_multiply_b98 g C st x2 x3 (31 : Int32) (1 : Int32) H locs ls hI (lv_sub hl [0, 2, 3] rfl) hO X hF
def m_multiply_b47 (st : CS) (x1 : Int32) (x2 : Int32) (y1 : Int32) (y0 : Int32) : CS × Int32 := (if ((15 : Int32) ≤ ((x1 >>> ((16 : Int32) &&& 31)) &&& (15 : Int32))) then (m_multiply_b76 st x1 x2 (y1 + y0)) else (m_multiply_b76 (m_give st (m_mode st) ((x1 >>> ((16 : Int32) &&& 31)) &&& (15 : Int32)) (y1 + y0)) x1 x2 (y1 + y0)))
def o_m_multiply_b47 (st : CS) (x1 : Int32) (x2 : Int32) (y1 : Int32) (y0 : Int32) : Prop := ((((15 : Int32) ≤ ((x1 >>> ((16 : Int32) &&& 31)) &&& (15 : Int32))) → (o_m_multiply_b76 st x1 x2 (y1 + y0))) ∧ (¬ ((15 : Int32) ≤ ((x1 >>> ((16 : Int32) &&& 31)) &&& (15 : Int32))) → ((o_m_give st (m_mode st) ((x1 >>> ((16 : Int32) &&& 31)) &&& (15 : Int32)) (y1 + y0)) ∧ (o_m_multiply_b76 (m_give st (m_mode st) ((x1 >>> ((16 : Int32) &&& 31)) &&& (15 : Int32)) (y1 + y0)) x1 x2 (y1 + y0)))))
set_option maxHeartbeats 4000000 in
set_option maxRecDepth 100000 in
theorem k_m_multiply_b47 {p : Program} {l : Launch} {e : Env} {s : State} {m : MethodId} {args : Array Value} {below : List Frame} {meth : Method} {c : Code} {A : Nat → Prop} (g : Gm) (C : cX p s m args meth c A cX11_multiply (some .int) 7 RX11 wq_X11_multiply (gD g) vwCl (mty g) (mz g)) (st : CS) (x1 : Int32) (x2 : Int32) (y1 : Int32) (y0 : Int32) (H : Heap) (locs : List Loc) (ls : Array Slot) (hI : cI (gD g) vwCl (mw g) A s st H locs) (hl : lv_has ls 7 [(0, .ref (gad g 0)), (1, .int x1), (2, .int x2)]) (hO : o_m_multiply_b47 st x1 x2 y1 y0) (X : CS × Int32) (hF : X = m_multiply_b47 st x1 x2 y1 y0) : W p l e rm_m_multiply s m args below meth c H locs 0 0 (MQ below (cQi (gD g) vwCl (mty g) (mw g) A X.1 X.2) args s 0 0 A) (F0 m 47 ls [.int y0, .int y1]) := by
  obtain ⟨hx, hb, hr, hml, hown, hts, hlocks, hK, hA, hZ, hzo⟩ := id C
  unfold m_multiply_b47 at hF
  unfold o_m_multiply_b47 at hO
  refine lv_iadd hx hb dX11_multiply_47 ?_
  refine lv_istore_n (lv' := [(3, .int (y1 + y0)), (0, .ref (gad g 0)), (1, .int x1), (2, .int x2)]) hx hb dX11_multiply_48 rfl hl (by decide) rfl (fun ls hl => ?_)
  refine lv_iload_n hx hb dX11_multiply_49 rfl (lv_at hl 2 rfl) ?_
  refine lv_bipush (v := (16 : Int32)) hx hb dX11_multiply_50 (by decide) ?_
  refine lv_ishr hx hb dX11_multiply_52 ?_
  refine lv_bipush (v := (15 : Int32)) hx hb dX11_multiply_53 (by decide) ?_
  refine lv_iand hx hb dX11_multiply_55 ?_
  refine lv_istore (lv' := [(4, .int ((x1 >>> ((16 : Int32) &&& 31)) &&& (15 : Int32))), (3, .int (y1 + y0)), (0, .ref (gad g 0)), (1, .int x1), (2, .int x2)]) hx hb dX11_multiply_56 hl (by decide) rfl (fun ls hl => ?_)
  refine lv_iload hx hb dX11_multiply_58 (lv_at hl 0 rfl) ?_
  refine lv_bipush (v := (15 : Int32)) hx hb dX11_multiply_60 (by decide) ?_
  refine lv_icmp_ge (tgt := 76) hx hb dX11_multiply_62 (by decide) (fun c_62 => ?_) (fun c_62 => ?_)
  · have hF := hF.trans (if_pos c_62)
    have hO := hO.1 c_62
    exact k_m_multiply_b76 g C st x1 x2 (y1 + y0) H locs ls hI (lv_sub hl [2, 3, 4, 1] rfl) hO X hF
  · have hF := hF.trans (if_neg c_62)
    have hO := hO.2 c_62
    refine lv_aload_n hx hb dX11_multiply_65 rfl (lv_at hl 2 rfl) ?_
    refine lv_aload_n hx hb dX11_multiply_66 rfl (lv_at hl 2 rfl) ?_
    refine cx_Vi (As := []) (rest := [.ref (gad g 0)]) C (c_m_mode l g st ) (cwV 0 hts (gd_V _ mw796 mw797 mw798 mw3 mw799) rfl rfl rfl yd_yX11_mode ⟨Nat.le_of_ble_eq_true rfl, Nat.le_of_ble_eq_true rfl⟩) (va_recv hK hI.1 (ci := 11) (q0 := 0) rfl rfl) hI rfl hl.1 rfl (Nat.le_of_ble_eq_true rfl) dX11_multiply_67 (fun H locs hI => ?_)
    refine lv_iload hx hb dX11_multiply_70 (lv_at hl 0 rfl) ?_
    refine lv_iload_n hx hb dX11_multiply_72 rfl (lv_at hl 1 rfl) ?_
    have hq_73_0 := hO.1
    have hO := hO.2
    refine cx_Vv (As := [.int (m_mode st), .int ((x1 >>> ((16 : Int32) &&& 31)) &&& (15 : Int32)), .int (y1 + y0)]) (rest := []) C (c_m_give l g st (m_mode st) ((x1 >>> ((16 : Int32) &&& 31)) &&& (15 : Int32)) (y1 + y0) hq_73_0) (cwV 3 hts (gd_V _ mw777 mw778 mw779 mw3 mw780) rfl rfl rfl yd_yX11_give ⟨Nat.le_of_ble_eq_true rfl, Nat.le_of_ble_eq_true rfl⟩) (va_recv hK hI.1 (ci := 11) (q0 := 0) rfl rfl) hI rfl hl.1 rfl (Nat.le_of_ble_eq_true rfl) dX11_multiply_73 (fun H locs hI => ?_)
    exact k_m_multiply_b76 g C (m_give st (m_mode st) ((x1 >>> ((16 : Int32) &&& 31)) &&& (15 : Int32)) (y1 + y0)) x1 x2 (y1 + y0) H locs ls hI (lv_sub hl [2, 3, 4, 1] rfl) hO X hF
def m_multiply (st : CS) (x1 : Int32) : CS × Int32 := (if (((x1 >>> ((21 : Int32) &&& 31)) &&& (1 : Int32)) = (1 : Int32)) then (m_multiply_b47 st x1 (m_operand st ((x1 >>> ((8 : Int32) &&& 31)) &&& (15 : Int32))) ((m_operand st (x1 &&& (15 : Int32))) * (m_operand st ((x1 >>> ((8 : Int32) &&& 31)) &&& (15 : Int32)))) (m_operand st ((x1 >>> ((12 : Int32) &&& 31)) &&& (15 : Int32)))) else (m_multiply_b47 st x1 (m_operand st ((x1 >>> ((8 : Int32) &&& 31)) &&& (15 : Int32))) ((m_operand st (x1 &&& (15 : Int32))) * (m_operand st ((x1 >>> ((8 : Int32) &&& 31)) &&& (15 : Int32)))) (0 : Int32)))
def o_m_multiply (st : CS) (x1 : Int32) : Prop := ((o_m_operand st ((x1 >>> ((8 : Int32) &&& 31)) &&& (15 : Int32))) ∧ ((o_m_operand st (x1 &&& (15 : Int32))) ∧ (((((x1 >>> ((21 : Int32) &&& 31)) &&& (1 : Int32)) = (1 : Int32)) → ((o_m_operand st ((x1 >>> ((12 : Int32) &&& 31)) &&& (15 : Int32))) ∧ (o_m_multiply_b47 st x1 (m_operand st ((x1 >>> ((8 : Int32) &&& 31)) &&& (15 : Int32))) ((m_operand st (x1 &&& (15 : Int32))) * (m_operand st ((x1 >>> ((8 : Int32) &&& 31)) &&& (15 : Int32)))) (m_operand st ((x1 >>> ((12 : Int32) &&& 31)) &&& (15 : Int32)))))) ∧ (¬ (((x1 >>> ((21 : Int32) &&& 31)) &&& (1 : Int32)) = (1 : Int32)) → (o_m_multiply_b47 st x1 (m_operand st ((x1 >>> ((8 : Int32) &&& 31)) &&& (15 : Int32))) ((m_operand st (x1 &&& (15 : Int32))) * (m_operand st ((x1 >>> ((8 : Int32) &&& 31)) &&& (15 : Int32)))) (0 : Int32))))))
set_option maxHeartbeats 4000000 in
set_option maxRecDepth 100000 in
theorem k_m_multiply {p : Program} {l : Launch} {e : Env} {s : State} {m : MethodId} {args : Array Value} {below : List Frame} {meth : Method} {c : Code} {A : Nat → Prop} (g : Gm) (C : cX p s m args meth c A cX11_multiply (some .int) 7 RX11 wq_X11_multiply (gD g) vwCl (mty g) (mz g)) (st : CS) (x1 : Int32) (H : Heap) (locs : List Loc) (ls : Array Slot) (hI : cI (gD g) vwCl (mw g) A s st H locs) (hl : lv_has ls 7 [(0, .ref (gad g 0)), (1, .int x1)]) (hO : o_m_multiply st x1) (X : CS × Int32) (hF : X = m_multiply st x1) : W p l e rm_m_multiply s m args below meth c H locs 0 0 (MQ below (cQi (gD g) vwCl (mty g) (mw g) A X.1 X.2) args s 0 0 A) (F0 m 0 ls []) := by
  obtain ⟨hx, hb, hr, hml, hown, hts, hlocks, hK, hA, hZ, hzo⟩ := id C
  unfold m_multiply at hF
  unfold o_m_multiply at hO
  refine lv_aload_n hx hb dX11_multiply_0 rfl (lv_at hl 0 rfl) ?_
  refine lv_iload_n hx hb dX11_multiply_1 rfl (lv_at hl 1 rfl) ?_
  refine lv_bipush (v := (8 : Int32)) hx hb dX11_multiply_2 (by decide) ?_
  refine lv_ishr hx hb dX11_multiply_4 ?_
  refine lv_bipush (v := (15 : Int32)) hx hb dX11_multiply_5 (by decide) ?_
  refine lv_iand hx hb dX11_multiply_7 ?_
  have hq_8_0 := hO.1
  have hO := hO.2
  refine cx_Vi (As := [.int ((x1 >>> ((8 : Int32) &&& 31)) &&& (15 : Int32))]) (rest := []) C (c_m_operand l g st ((x1 >>> ((8 : Int32) &&& 31)) &&& (15 : Int32)) hq_8_0) (cwV 1 hts (gd_V _ mw826 mw827 mw828 mw3 mw829) rfl rfl rfl yd_yX11_operand ⟨Nat.le_of_ble_eq_true rfl, Nat.le_of_ble_eq_true rfl⟩) (va_recv hK hI.1 (ci := 11) (q0 := 0) rfl rfl) hI rfl hl.1 rfl (Nat.le_of_ble_eq_true rfl) dX11_multiply_8 (fun H locs hI => ?_)
  refine lv_istore_n (lv' := [(2, .int (m_operand st ((x1 >>> ((8 : Int32) &&& 31)) &&& (15 : Int32)))), (0, .ref (gad g 0)), (1, .int x1)]) hx hb dX11_multiply_11 rfl hl (by decide) rfl (fun ls hl => ?_)
  refine lv_aload_n hx hb dX11_multiply_12 rfl (lv_at hl 1 rfl) ?_
  refine lv_iload_n hx hb dX11_multiply_13 rfl (lv_at hl 2 rfl) ?_
  refine lv_bipush (v := (15 : Int32)) hx hb dX11_multiply_14 (by decide) ?_
  refine lv_iand hx hb dX11_multiply_16 ?_
  have hq_17_1 := hO.1
  have hO := hO.2
  refine cx_Vi (As := [.int (x1 &&& (15 : Int32))]) (rest := []) C (c_m_operand l g st (x1 &&& (15 : Int32)) hq_17_1) (cwV 1 hts (gd_V _ mw826 mw827 mw828 mw3 mw829) rfl rfl rfl yd_yX11_operand ⟨Nat.le_of_ble_eq_true rfl, Nat.le_of_ble_eq_true rfl⟩) (va_recv hK hI.1 (ci := 11) (q0 := 0) rfl rfl) hI rfl hl.1 rfl (Nat.le_of_ble_eq_true rfl) dX11_multiply_17 (fun H locs hI => ?_)
  refine lv_iload_n hx hb dX11_multiply_20 rfl (lv_at hl 0 rfl) ?_
  refine lv_imul hx hb dX11_multiply_21 ?_
  refine lv_iload_n hx hb dX11_multiply_22 rfl (lv_at hl 2 rfl) ?_
  refine lv_bipush (v := (21 : Int32)) hx hb dX11_multiply_23 (by decide) ?_
  refine lv_ishr hx hb dX11_multiply_25 ?_
  refine lv_iconst (v := (1 : Int32)) hx hb dX11_multiply_26 (by decide) ?_
  refine lv_iand hx hb dX11_multiply_27 ?_
  refine lv_iconst (v := (1 : Int32)) hx hb dX11_multiply_28 (by decide) ?_
  refine lv_icmp_ne (tgt := 46) hx hb dX11_multiply_29 (by decide) (fun c_29 => ?_) (fun c_29 => ?_)
  · have hF := hF.trans (if_neg c_29)
    have hO := hO.2 c_29
    refine lv_iconst (v := (0 : Int32)) hx hb dX11_multiply_46 (by decide) ?_
    exact k_m_multiply_b47 g C st x1 (m_operand st ((x1 >>> ((8 : Int32) &&& 31)) &&& (15 : Int32))) ((m_operand st (x1 &&& (15 : Int32))) * (m_operand st ((x1 >>> ((8 : Int32) &&& 31)) &&& (15 : Int32)))) (0 : Int32) H locs ls hI (lv_sub hl [1, 2, 0] rfl) hO X hF
  · have hF := hF.trans (if_pos c_29)
    have hO := hO.1 c_29
    refine lv_aload_n hx hb dX11_multiply_32 rfl (lv_at hl 1 rfl) ?_
    refine lv_iload_n hx hb dX11_multiply_33 rfl (lv_at hl 2 rfl) ?_
    refine lv_bipush (v := (12 : Int32)) hx hb dX11_multiply_34 (by decide) ?_
    refine lv_ishr hx hb dX11_multiply_36 ?_
    refine lv_bipush (v := (15 : Int32)) hx hb dX11_multiply_37 (by decide) ?_
    refine lv_iand hx hb dX11_multiply_39 ?_
    have hq_40_0 := hO.1
    have hO := hO.2
    refine cx_Vi (As := [.int ((x1 >>> ((12 : Int32) &&& 31)) &&& (15 : Int32))]) (rest := [.int ((m_operand st (x1 &&& (15 : Int32))) * (m_operand st ((x1 >>> ((8 : Int32) &&& 31)) &&& (15 : Int32))))]) C (c_m_operand l g st ((x1 >>> ((12 : Int32) &&& 31)) &&& (15 : Int32)) hq_40_0) (cwV 1 hts (gd_V _ mw826 mw827 mw828 mw3 mw829) rfl rfl rfl yd_yX11_operand ⟨Nat.le_of_ble_eq_true rfl, Nat.le_of_ble_eq_true rfl⟩) (va_recv hK hI.1 (ci := 11) (q0 := 0) rfl rfl) hI rfl hl.1 rfl (Nat.le_of_ble_eq_true rfl) dX11_multiply_40 (fun H locs hI => ?_)
    refine lv_goto (tgt := 47) hx hb dX11_multiply_43 (by decide) ?_
    exact k_m_multiply_b47 g C st x1 (m_operand st ((x1 >>> ((8 : Int32) &&& 31)) &&& (15 : Int32))) ((m_operand st (x1 &&& (15 : Int32))) * (m_operand st ((x1 >>> ((8 : Int32) &&& 31)) &&& (15 : Int32)))) (m_operand st ((x1 >>> ((12 : Int32) &&& 31)) &&& (15 : Int32))) H locs ls hI (lv_sub hl [1, 2, 0] rfl) hO X hF
set_option maxHeartbeats 4000000 in
set_option maxRecDepth 100000 in
theorem c_m_multiply (l : Launch) (g : Gm) (st : CS) (x1 : Int32) (hO : o_m_multiply st x1) : Mi l yX11_multiply wq_X11_multiply rm_m_multiply (gD g) vwCl (mty g) (mw g) (mz g) [.ref (gad g 0), .int x1] st (m_multiply st x1).1 (m_multiply st x1).2 := by
  intro sz
  refine Met.ofW (cc := cX11_multiply) (maxL := 7) (ret := (some .int)) (by decide) rfl ?_
  intro p e s m args below meth c s₁ B hml hv
  obtain ⟨rfl, hsz, hP, hK, hD0, hZ⟩ := hv
  subst hsz
  have hl := lv_entry ([.ref (gad g 0), .int x1]) (n := 7) (Nat.le_of_ble_eq_true rfl)
  rw [lg_entry_eq]
  generalize (lg_sl ([.ref (gad g 0), .int x1]) ++ List.replicate (7 - (lg_sl ([.ref (gad g 0), .int x1])).length) Slot.unset).toArray = ls at hl ⊢
  exact k_m_multiply g ⟨B.exec, B.bytes, B.returns, hml, findClass_of_methodNamed B.named, atoms_spec (ws := wq_X11_multiply) B.pre, B.notSynchronized, hK, fun q h => Or.inr h, hZ, mz_ok g⟩ st x1 _ _ ls ⟨hP, hD0.self, va_S.rf⟩ hl hO _ rfl
abbrev wq_X11_bit : List Cond := .code yX11_bit cX11_bit 2 (some .boolean) :: wAll
theorem yd_yX11_bit : yX11_bit.cls ≠ "java/lang/invoke/MethodHandle" ∧ yX11_bit.cls ≠ "java/lang/invoke/VarHandle" ∧ (parseMethodDescriptor yX11_bit.desc).map (fun d => d.parameters.length) = some 2 := by decide +kernel
abbrev rm_m_bit : Room := { frames := 0, cells := 0, slots := 0, locals := 0 }
def m_bit (x0 : Int32) (x1 : Int32) : Int32 := (if (((ushr x0 x1) &&& (1 : Int32)) = (1 : Int32)) then (1 : Int32) else (0 : Int32))
set_option maxHeartbeats 4000000 in
set_option maxRecDepth 100000 in
theorem k_m_bit {p : Program} {l : Launch} {e : Env} {s : State} {m : MethodId} {args : Array Value} {below : List Frame} {meth : Method} {c : Code} {A : Nat → Prop} (g : Gm) (C : cX p s m args meth c A cX11_bit (some .boolean) 2 RX11 wq_X11_bit (gD g) vwCl (mty g) (mz g)) (st : CS) (x0 : Int32) (x1 : Int32) (H : Heap) (locs : List Loc) (ls : Array Slot) (hI : cI (gD g) vwCl (mw g) A s st H locs) (hl : lv_has ls 2 [(0, .int x0), (1, .int x1)]) (X : Int32) (hF : X = m_bit x0 x1) : W p l e rm_m_bit s m args below meth c H locs 0 0 (MQ below (cQi (gD g) vwCl (mty g) (mw g) A st X) args s 0 0 A) (F0 m 0 ls []) := by
  obtain ⟨hx, hb, hr, hml, hown, hts, hlocks, hK, hA, hZ, hzo⟩ := id C
  unfold m_bit at hF
  refine lv_iload_n hx hb dX11_bit_0 rfl (lv_at hl 0 rfl) ?_
  refine lv_iload_n hx hb dX11_bit_1 rfl (lv_at hl 1 rfl) ?_
  refine lv_iushr (v := (ushr x0 x1)) hx hb dX11_bit_2 rfl ?_
  refine lv_iconst (v := (1 : Int32)) hx hb dX11_bit_3 (by decide) ?_
  refine lv_iand hx hb dX11_bit_4 ?_
  refine lv_iconst (v := (1 : Int32)) hx hb dX11_bit_5 (by decide) ?_
  refine lv_icmp_ne (tgt := 13) hx hb dX11_bit_6 (by decide) (fun c_6 => ?_) (fun c_6 => ?_)
  · have hF := hF.trans (if_neg c_6)
    refine lv_iconst (v := (0 : Int32)) hx hb dX11_bit_13 (by decide) ?_
    exact cx_zret C hI rfl hF rfl dX11_bit_14
  · have hF := hF.trans (if_pos c_6)
    refine lv_iconst (v := (1 : Int32)) hx hb dX11_bit_9 (by decide) ?_
    refine lv_goto (tgt := 14) hx hb dX11_bit_10 (by decide) ?_
    exact cx_zret C hI rfl hF rfl dX11_bit_14
set_option maxHeartbeats 4000000 in
set_option maxRecDepth 100000 in
theorem c_m_bit (l : Launch) (g : Gm) (st : CS) (x0 : Int32) (x1 : Int32) : Mi l yX11_bit wq_X11_bit rm_m_bit (gD g) vwCl (mty g) (mw g) (mz g) [.int x0, .int x1] st st (m_bit x0 x1) := by
  intro sz
  refine Met.ofW (cc := cX11_bit) (maxL := 2) (ret := (some .boolean)) (by decide) rfl ?_
  intro p e s m args below meth c s₁ B hml hv
  obtain ⟨rfl, hsz, hP, hK, hD0, hZ⟩ := hv
  subst hsz
  have hl := lv_entry ([.int x0, .int x1]) (n := 2) (Nat.le_of_ble_eq_true rfl)
  rw [lg_entry_eq]
  generalize (lg_sl ([.int x0, .int x1]) ++ List.replicate (2 - (lg_sl ([.int x0, .int x1])).length) Slot.unset).toArray = ls at hl ⊢
  exact k_m_bit g ⟨B.exec, B.bytes, B.returns, hml, findClass_of_methodNamed B.named, atoms_spec (ws := wq_X11_bit) B.pre, B.notSynchronized, hK, fun q h => Or.inr h, hZ, mz_ok g⟩ st x0 x1 _ _ ls ⟨hP, hD0.self, va_S.rf⟩ hl _ rfl
abbrev wq_X11_turned : List Cond := .code yX11_turned cX11_turned 2 (some .int) :: wAll
theorem yd_yX11_turned : yX11_turned.cls ≠ "java/lang/invoke/MethodHandle" ∧ yX11_turned.cls ≠ "java/lang/invoke/VarHandle" ∧ (parseMethodDescriptor yX11_turned.desc).map (fun d => d.parameters.length) = some 2 := by decide +kernel
abbrev rm_m_turned : Room := { frames := 0, cells := 0, slots := 0, locals := 0 }
def m_turned (x0 : Int32) (x1 : Int32) : Int32 := (if ((x1 - x1 / (32 : Int32) * (32 : Int32)) = 0) then x0 else ((ushr x0 (x1 - x1 / (32 : Int32) * (32 : Int32))) ||| (x0 <<< (((32 : Int32) - (x1 - x1 / (32 : Int32) * (32 : Int32))) &&& 31))))
set_option maxHeartbeats 4000000 in
set_option maxRecDepth 100000 in
theorem k_m_turned {p : Program} {l : Launch} {e : Env} {s : State} {m : MethodId} {args : Array Value} {below : List Frame} {meth : Method} {c : Code} {A : Nat → Prop} (g : Gm) (C : cX p s m args meth c A cX11_turned (some .int) 2 RX11 wq_X11_turned (gD g) vwCl (mty g) (mz g)) (st : CS) (x0 : Int32) (x1 : Int32) (H : Heap) (locs : List Loc) (ls : Array Slot) (hI : cI (gD g) vwCl (mw g) A s st H locs) (hl : lv_has ls 2 [(0, .int x0), (1, .int x1)]) (X : Int32) (hF : X = m_turned x0 x1) : W p l e rm_m_turned s m args below meth c H locs 0 0 (MQ below (cQi (gD g) vwCl (mty g) (mw g) A st X) args s 0 0 A) (F0 m 0 ls []) := by
  obtain ⟨hx, hb, hr, hml, hown, hts, hlocks, hK, hA, hZ, hzo⟩ := id C
  unfold m_turned at hF
  refine lv_iload_n hx hb dX11_turned_0 rfl (lv_at hl 1 rfl) ?_
  refine lv_bipush (v := (32 : Int32)) hx hb dX11_turned_1 (by decide) ?_
  refine lv_irem hx hb dX11_turned_3 (by decide) ?_
  refine lv_if_ne (tgt := 11) hx hb dX11_turned_4 (by decide) (fun c_4 => ?_) (fun c_4 => ?_)
  · have hF := hF.trans (if_neg c_4)
    refine lv_iload_n hx hb dX11_turned_11 rfl (lv_at hl 0 rfl) ?_
    refine lv_iload_n hx hb dX11_turned_12 rfl (lv_at hl 1 rfl) ?_
    refine lv_bipush (v := (32 : Int32)) hx hb dX11_turned_13 (by decide) ?_
    refine lv_irem hx hb dX11_turned_15 (by decide) ?_
    refine lv_iushr (v := (ushr x0 (x1 - x1 / (32 : Int32) * (32 : Int32)))) hx hb dX11_turned_16 rfl ?_
    refine lv_iload_n hx hb dX11_turned_17 rfl (lv_at hl 0 rfl) ?_
    refine lv_bipush (v := (32 : Int32)) hx hb dX11_turned_18 (by decide) ?_
    refine lv_iload_n hx hb dX11_turned_20 rfl (lv_at hl 1 rfl) ?_
    refine lv_bipush (v := (32 : Int32)) hx hb dX11_turned_21 (by decide) ?_
    refine lv_irem hx hb dX11_turned_23 (by decide) ?_
    refine lv_isub hx hb dX11_turned_24 ?_
    refine lv_ishl hx hb dX11_turned_25 ?_
    refine lv_ior hx hb dX11_turned_26 ?_
    exact cx_iret C hI rfl hF dX11_turned_27
  · have hF := hF.trans (if_pos c_4)
    refine lv_iload_n hx hb dX11_turned_7 rfl (lv_at hl 0 rfl) ?_
    refine lv_goto (tgt := 27) hx hb dX11_turned_8 (by decide) ?_
    exact cx_iret C hI rfl hF dX11_turned_27
set_option maxHeartbeats 4000000 in
set_option maxRecDepth 100000 in
theorem c_m_turned (l : Launch) (g : Gm) (st : CS) (x0 : Int32) (x1 : Int32) : Mi l yX11_turned wq_X11_turned rm_m_turned (gD g) vwCl (mty g) (mw g) (mz g) [.int x0, .int x1] st st (m_turned x0 x1) := by
  intro sz
  refine Met.ofW (cc := cX11_turned) (maxL := 2) (ret := (some .int)) (by decide) rfl ?_
  intro p e s m args below meth c s₁ B hml hv
  obtain ⟨rfl, hsz, hP, hK, hD0, hZ⟩ := hv
  subst hsz
  have hl := lv_entry ([.int x0, .int x1]) (n := 2) (Nat.le_of_ble_eq_true rfl)
  rw [lg_entry_eq]
  generalize (lg_sl ([.int x0, .int x1]) ++ List.replicate (2 - (lg_sl ([.int x0, .int x1])).length) Slot.unset).toArray = ls at hl ⊢
  exact k_m_turned g ⟨B.exec, B.bytes, B.returns, hml, findClass_of_methodNamed B.named, atoms_spec (ws := wq_X11_turned) B.pre, B.notSynchronized, hK, fun q h => Or.inr h, hZ, mz_ok g⟩ st x0 x1 _ _ ls ⟨hP, hD0.self, va_S.rf⟩ hl _ rfl
abbrev wq_X11_moved : List Cond := .code yX11_moved cX11_moved 5 (some .int) :: wAll
theorem yd_yX11_moved : yX11_moved.cls = RX11 ∧ yX11_moved.cls ≠ "java/lang/invoke/MethodHandle" ∧ yX11_moved.cls ≠ "java/lang/invoke/VarHandle" ∧ (parseMethodDescriptor yX11_moved.desc).map (fun d => d.parameters.length) = some 3 := by decide +kernel
abbrev rm_m_moved : Room := { frames := 1, cells := 0, slots := 0, locals := 21 }
def m_moved_b54 (st : CS) (x2 : Int32) (x3 : Int32) (y0 : Int32) : CS × Int32 := (if ((32 : Int32) ≤ x3) then ((sI st 4 y0), (0 : Int32)) else ((sI st 4 y0), (x2 <<< (x3 &&& 31))))
def o_m_moved_b54 (st : CS) (x2 : Int32) (x3 : Int32) (y0 : Int32) : Prop := ((y0 = (0 : Int32) ∨ y0 = (1 : Int32)) ∧ True)
set_option maxHeartbeats 4000000 in
set_option maxRecDepth 100000 in
theorem k_m_moved_b54 {p : Program} {l : Launch} {e : Env} {s : State} {m : MethodId} {args : Array Value} {below : List Frame} {meth : Method} {c : Code} {A : Nat → Prop} (g : Gm) (C : cX p s m args meth c A cX11_moved (some .int) 5 RX11 wq_X11_moved (gD g) vwCl (mty g) (mz g)) (st : CS) (x2 : Int32) (x3 : Int32) (y0 : Int32) (H : Heap) (locs : List Loc) (ls : Array Slot) (hI : cI (gD g) vwCl (mw g) A s st H locs) (hl : lv_has ls 5 [(0, .ref (gad g 0)), (2, .int x2), (3, .int x3)]) (hO : o_m_moved_b54 st x2 x3 y0) (X : CS × Int32) (hF : X = m_moved_b54 st x2 x3 y0) : W p l e rm_m_moved s m args below meth c H locs 0 0 (MQ below (cQi (gD g) vwCl (mty g) (mw g) A X.1 X.2) args s 0 0 A) (F0 m 54 ls [.int y0, .ref (gad g 0)]) := by
  obtain ⟨hx, hb, hr, hml, hown, hts, hlocks, hK, hA, hZ, hzo⟩ := id C
  unfold m_moved_b54 at hF
  unfold o_m_moved_b54 at hO
  have hq_54_0 := hO.1
  have hO := hO.2
  refine va_put (D := gD g) (ci := 11) (C := RX11) (T := TX11) (N := 50) (v := .int y0) (ty := .boolean) hx hb hts (fun w h => List.mem_cons_of_mem _ (isX110 w h)) tyX11 tyX11_ok nmX11 hown hK hI.1 hI.2.1 hI.2.2 0 rfl rfl 8 (by decide) (hts _ (List.mem_cons_of_mem _ mw842)) (fun _ h9 => h9) rfl (by decide +kernel) (nar_b hq_54_0) (fit_b hq_54_0) (Nat.le_of_ble_eq_true rfl) dX11_moved_54 (fun H locs hP hD hS => ?_)
  have hI : cI (gD g) vwCl (mw g) A s (sI st 4 y0) H locs := ⟨hP, hD, hS⟩
  refine lv_iload_n hx hb dX11_moved_57 rfl (lv_at hl 2 rfl) ?_
  refine lv_bipush (v := (32 : Int32)) hx hb dX11_moved_58 (by decide) ?_
  refine lv_icmp_ge (tgt := 69) hx hb dX11_moved_60 (by decide) (fun c_60 => ?_) (fun c_60 => ?_)
  · have hF := hF.trans (if_pos c_60)
    refine lv_iconst (v := (0 : Int32)) hx hb dX11_moved_69 (by decide) ?_
    exact cx_iret C hI (congrArg Prod.fst hF) (congrArg Prod.snd hF) dX11_moved_70
  · have hF := hF.trans (if_neg c_60)
    refine lv_iload_n hx hb dX11_moved_63 rfl (lv_at hl 1 rfl) ?_
    refine lv_iload_n hx hb dX11_moved_64 rfl (lv_at hl 2 rfl) ?_
    refine lv_ishl hx hb dX11_moved_65 ?_
    refine lv_goto (tgt := 70) hx hb dX11_moved_66 (by decide) ?_
    exact cx_iret C hI (congrArg Prod.fst hF) (congrArg Prod.snd hF) dX11_moved_70
def m_moved_b53 (st : CS) (x2 : Int32) (x3 : Int32) : CS × Int32 := (m_moved_b54 st x2 x3 (0 : Int32))
def o_m_moved_b53 (st : CS) (x2 : Int32) (x3 : Int32) : Prop := (o_m_moved_b54 st x2 x3 (0 : Int32))
set_option maxHeartbeats 4000000 in
set_option maxRecDepth 100000 in
theorem k_m_moved_b53 {p : Program} {l : Launch} {e : Env} {s : State} {m : MethodId} {args : Array Value} {below : List Frame} {meth : Method} {c : Code} {A : Nat → Prop} (g : Gm) (C : cX p s m args meth c A cX11_moved (some .int) 5 RX11 wq_X11_moved (gD g) vwCl (mty g) (mz g)) (st : CS) (x2 : Int32) (x3 : Int32) (H : Heap) (locs : List Loc) (ls : Array Slot) (hI : cI (gD g) vwCl (mw g) A s st H locs) (hl : lv_has ls 5 [(0, .ref (gad g 0)), (2, .int x2), (3, .int x3)]) (hO : o_m_moved_b53 st x2 x3) (X : CS × Int32) (hF : X = m_moved_b53 st x2 x3) : W p l e rm_m_moved s m args below meth c H locs 0 0 (MQ below (cQi (gD g) vwCl (mty g) (mw g) A X.1 X.2) args s 0 0 A) (F0 m 53 ls [.ref (gad g 0)]) := by
  obtain ⟨hx, hb, hr, hml, hown, hts, hlocks, hK, hA, hZ, hzo⟩ := id C
  unfold m_moved_b53 at hF
  unfold o_m_moved_b53 at hO
  refine lv_iconst (v := (0 : Int32)) hx hb dX11_moved_53 (by decide) ?_
  exact k_m_moved_b54 g C st x2 x3 (0 : Int32) H locs ls hI (lv_sub hl [0, 1, 2] rfl) hO X hF
def m_moved_b96 (st : CS) (x2 : Int32) (x3 : Int32) (y0 : Int32) : CS × Int32 := (if ((32 : Int32) ≤ x3) then ((sI st 4 y0), (0 : Int32)) else ((sI st 4 y0), (ushr x2 x3)))
def o_m_moved_b96 (st : CS) (x2 : Int32) (x3 : Int32) (y0 : Int32) : Prop := ((y0 = (0 : Int32) ∨ y0 = (1 : Int32)) ∧ True)
set_option maxHeartbeats 4000000 in
set_option maxRecDepth 100000 in
theorem k_m_moved_b96 {p : Program} {l : Launch} {e : Env} {s : State} {m : MethodId} {args : Array Value} {below : List Frame} {meth : Method} {c : Code} {A : Nat → Prop} (g : Gm) (C : cX p s m args meth c A cX11_moved (some .int) 5 RX11 wq_X11_moved (gD g) vwCl (mty g) (mz g)) (st : CS) (x2 : Int32) (x3 : Int32) (y0 : Int32) (H : Heap) (locs : List Loc) (ls : Array Slot) (hI : cI (gD g) vwCl (mw g) A s st H locs) (hl : lv_has ls 5 [(0, .ref (gad g 0)), (2, .int x2), (3, .int x3)]) (hO : o_m_moved_b96 st x2 x3 y0) (X : CS × Int32) (hF : X = m_moved_b96 st x2 x3 y0) : W p l e rm_m_moved s m args below meth c H locs 0 0 (MQ below (cQi (gD g) vwCl (mty g) (mw g) A X.1 X.2) args s 0 0 A) (F0 m 96 ls [.int y0, .ref (gad g 0)]) := by
  obtain ⟨hx, hb, hr, hml, hown, hts, hlocks, hK, hA, hZ, hzo⟩ := id C
  unfold m_moved_b96 at hF
  unfold o_m_moved_b96 at hO
  have hq_96_0 := hO.1
  have hO := hO.2
  refine va_put (D := gD g) (ci := 11) (C := RX11) (T := TX11) (N := 50) (v := .int y0) (ty := .boolean) hx hb hts (fun w h => List.mem_cons_of_mem _ (isX110 w h)) tyX11 tyX11_ok nmX11 hown hK hI.1 hI.2.1 hI.2.2 0 rfl rfl 8 (by decide) (hts _ (List.mem_cons_of_mem _ mw842)) (fun _ h9 => h9) rfl (by decide +kernel) (nar_b hq_96_0) (fit_b hq_96_0) (Nat.le_of_ble_eq_true rfl) dX11_moved_96 (fun H locs hP hD hS => ?_)
  have hI : cI (gD g) vwCl (mw g) A s (sI st 4 y0) H locs := ⟨hP, hD, hS⟩
  refine lv_iload_n hx hb dX11_moved_99 rfl (lv_at hl 2 rfl) ?_
  refine lv_bipush (v := (32 : Int32)) hx hb dX11_moved_100 (by decide) ?_
  refine lv_icmp_ge (tgt := 111) hx hb dX11_moved_102 (by decide) (fun c_102 => ?_) (fun c_102 => ?_)
  · have hF := hF.trans (if_pos c_102)
    refine lv_iconst (v := (0 : Int32)) hx hb dX11_moved_111 (by decide) ?_
    exact cx_iret C hI (congrArg Prod.fst hF) (congrArg Prod.snd hF) dX11_moved_112
  · have hF := hF.trans (if_neg c_102)
    refine lv_iload_n hx hb dX11_moved_105 rfl (lv_at hl 1 rfl) ?_
    refine lv_iload_n hx hb dX11_moved_106 rfl (lv_at hl 2 rfl) ?_
    refine lv_iushr (v := (ushr x2 x3)) hx hb dX11_moved_107 rfl ?_
    refine lv_goto (tgt := 112) hx hb dX11_moved_108 (by decide) ?_
    exact cx_iret C hI (congrArg Prod.fst hF) (congrArg Prod.snd hF) dX11_moved_112
def m_moved_b95 (st : CS) (x2 : Int32) (x3 : Int32) : CS × Int32 := (m_moved_b96 st x2 x3 (0 : Int32))
def o_m_moved_b95 (st : CS) (x2 : Int32) (x3 : Int32) : Prop := (o_m_moved_b96 st x2 x3 (0 : Int32))
set_option maxHeartbeats 4000000 in
set_option maxRecDepth 100000 in
theorem k_m_moved_b95 {p : Program} {l : Launch} {e : Env} {s : State} {m : MethodId} {args : Array Value} {below : List Frame} {meth : Method} {c : Code} {A : Nat → Prop} (g : Gm) (C : cX p s m args meth c A cX11_moved (some .int) 5 RX11 wq_X11_moved (gD g) vwCl (mty g) (mz g)) (st : CS) (x2 : Int32) (x3 : Int32) (H : Heap) (locs : List Loc) (ls : Array Slot) (hI : cI (gD g) vwCl (mw g) A s st H locs) (hl : lv_has ls 5 [(0, .ref (gad g 0)), (2, .int x2), (3, .int x3)]) (hO : o_m_moved_b95 st x2 x3) (X : CS × Int32) (hF : X = m_moved_b95 st x2 x3) : W p l e rm_m_moved s m args below meth c H locs 0 0 (MQ below (cQi (gD g) vwCl (mty g) (mw g) A X.1 X.2) args s 0 0 A) (F0 m 95 ls [.ref (gad g 0)]) := by
  obtain ⟨hx, hb, hr, hml, hown, hts, hlocks, hK, hA, hZ, hzo⟩ := id C
  unfold m_moved_b95 at hF
  unfold o_m_moved_b95 at hO
  refine lv_iconst (v := (0 : Int32)) hx hb dX11_moved_95 (by decide) ?_
  exact k_m_moved_b96 g C st x2 x3 (0 : Int32) H locs ls hI (lv_sub hl [0, 1, 2] rfl) hO X hF
def m_moved_b129 (st : CS) (x2 : Int32) (x3 : Int32) (y1 : Int32) (y0 : Int32) : CS × Int32 := (if ((32 : Int32) ≤ x3) then ((sI st 4 (m_bit y1 y0)), (x2 >>> ((31 : Int32) &&& 31))) else ((sI st 4 (m_bit y1 y0)), (x2 >>> (x3 &&& 31))))
def o_m_moved_b129 (st : CS) (x2 : Int32) (x3 : Int32) (y1 : Int32) (y0 : Int32) : Prop := (((m_bit y1 y0) = (0 : Int32) ∨ (m_bit y1 y0) = (1 : Int32)) ∧ True)
set_option maxHeartbeats 4000000 in
set_option maxRecDepth 100000 in
theorem k_m_moved_b129 {p : Program} {l : Launch} {e : Env} {s : State} {m : MethodId} {args : Array Value} {below : List Frame} {meth : Method} {c : Code} {A : Nat → Prop} (g : Gm) (C : cX p s m args meth c A cX11_moved (some .int) 5 RX11 wq_X11_moved (gD g) vwCl (mty g) (mz g)) (st : CS) (x2 : Int32) (x3 : Int32) (y1 : Int32) (y0 : Int32) (H : Heap) (locs : List Loc) (ls : Array Slot) (hI : cI (gD g) vwCl (mw g) A s st H locs) (hl : lv_has ls 5 [(0, .ref (gad g 0)), (2, .int x2), (3, .int x3)]) (hO : o_m_moved_b129 st x2 x3 y1 y0) (X : CS × Int32) (hF : X = m_moved_b129 st x2 x3 y1 y0) : W p l e rm_m_moved s m args below meth c H locs 0 0 (MQ below (cQi (gD g) vwCl (mty g) (mw g) A X.1 X.2) args s 0 0 A) (F0 m 129 ls [.int y0, .int y1, .ref (gad g 0)]) := by
  obtain ⟨hx, hb, hr, hml, hown, hts, hlocks, hK, hA, hZ, hzo⟩ := id C
  unfold m_moved_b129 at hF
  unfold o_m_moved_b129 at hO
  refine cx_Si (As := [.int y1, .int y0]) (rest := [.ref (gad g 0)]) C (c_m_bit l g st y1 y0) (va_cwS 2 hts (gd_S _ mw850 mw851 mw3 mw852) rfl rfl rfl yd_yX11_bit ⟨Nat.le_of_ble_eq_true rfl, Nat.le_of_ble_eq_true rfl⟩) hI rfl hl.1 rfl (Nat.le_of_ble_eq_true rfl) dX11_moved_129 (fun H locs hI => ?_)
  have hq_132_0 := hO.1
  have hO := hO.2
  refine va_put (D := gD g) (ci := 11) (C := RX11) (T := TX11) (N := 50) (v := .int (m_bit y1 y0)) (ty := .boolean) hx hb hts (fun w h => List.mem_cons_of_mem _ (isX110 w h)) tyX11 tyX11_ok nmX11 hown hK hI.1 hI.2.1 hI.2.2 0 rfl rfl 8 (by decide) (hts _ (List.mem_cons_of_mem _ mw842)) (fun _ h9 => h9) rfl (by decide +kernel) (nar_b hq_132_0) (fit_b hq_132_0) (Nat.le_of_ble_eq_true rfl) dX11_moved_132 (fun H locs hP hD hS => ?_)
  have hI : cI (gD g) vwCl (mw g) A s (sI st 4 (m_bit y1 y0)) H locs := ⟨hP, hD, hS⟩
  refine lv_iload_n hx hb dX11_moved_135 rfl (lv_at hl 2 rfl) ?_
  refine lv_bipush (v := (32 : Int32)) hx hb dX11_moved_136 (by decide) ?_
  refine lv_icmp_ge (tgt := 147) hx hb dX11_moved_138 (by decide) (fun c_138 => ?_) (fun c_138 => ?_)
  · have hF := hF.trans (if_pos c_138)
    refine lv_iload_n hx hb dX11_moved_147 rfl (lv_at hl 1 rfl) ?_
    refine lv_bipush (v := (31 : Int32)) hx hb dX11_moved_148 (by decide) ?_
    refine lv_ishr hx hb dX11_moved_150 ?_
    exact cx_iret C hI (congrArg Prod.fst hF) (congrArg Prod.snd hF) dX11_moved_151
  · have hF := hF.trans (if_neg c_138)
    refine lv_iload_n hx hb dX11_moved_141 rfl (lv_at hl 1 rfl) ?_
    refine lv_iload_n hx hb dX11_moved_142 rfl (lv_at hl 2 rfl) ?_
    refine lv_ishr hx hb dX11_moved_143 ?_
    refine lv_goto (tgt := 151) hx hb dX11_moved_144 (by decide) ?_
    exact cx_iret C hI (congrArg Prod.fst hF) (congrArg Prod.snd hF) dX11_moved_151
def m_moved_b170 (st : CS) (x4 : Int32) (y0 : Int32) : CS × Int32 := ((sI st 4 y0), x4)
def o_m_moved_b170 (st : CS) (x4 : Int32) (y0 : Int32) : Prop := ((y0 = (0 : Int32) ∨ y0 = (1 : Int32)) ∧ True)
set_option maxHeartbeats 4000000 in
set_option maxRecDepth 100000 in
theorem k_m_moved_b170 {p : Program} {l : Launch} {e : Env} {s : State} {m : MethodId} {args : Array Value} {below : List Frame} {meth : Method} {c : Code} {A : Nat → Prop} (g : Gm) (C : cX p s m args meth c A cX11_moved (some .int) 5 RX11 wq_X11_moved (gD g) vwCl (mty g) (mz g)) (st : CS) (x4 : Int32) (y0 : Int32) (H : Heap) (locs : List Loc) (ls : Array Slot) (hI : cI (gD g) vwCl (mw g) A s st H locs) (hl : lv_has ls 5 [(0, .ref (gad g 0)), (4, .int x4)]) (hO : o_m_moved_b170 st x4 y0) (X : CS × Int32) (hF : X = m_moved_b170 st x4 y0) : W p l e rm_m_moved s m args below meth c H locs 0 0 (MQ below (cQi (gD g) vwCl (mty g) (mw g) A X.1 X.2) args s 0 0 A) (F0 m 170 ls [.int y0, .ref (gad g 0)]) := by
  obtain ⟨hx, hb, hr, hml, hown, hts, hlocks, hK, hA, hZ, hzo⟩ := id C
  unfold m_moved_b170 at hF
  unfold o_m_moved_b170 at hO
  have hq_170_0 := hO.1
  have hO := hO.2
  refine va_put (D := gD g) (ci := 11) (C := RX11) (T := TX11) (N := 50) (v := .int y0) (ty := .boolean) hx hb hts (fun w h => List.mem_cons_of_mem _ (isX110 w h)) tyX11 tyX11_ok nmX11 hown hK hI.1 hI.2.1 hI.2.2 0 rfl rfl 8 (by decide) (hts _ (List.mem_cons_of_mem _ mw842)) (fun _ h9 => h9) rfl (by decide +kernel) (nar_b hq_170_0) (fit_b hq_170_0) (Nat.le_of_ble_eq_true rfl) dX11_moved_170 (fun H locs hP hD hS => ?_)
  have hI : cI (gD g) vwCl (mw g) A s (sI st 4 y0) H locs := ⟨hP, hD, hS⟩
  refine lv_iload hx hb dX11_moved_173 (lv_at hl 1 rfl) ?_
  exact cx_iret C hI (congrArg Prod.fst hF) (congrArg Prod.snd hF) dX11_moved_175
def m_moved (st : CS) (x1 : Int32) (x2 : Int32) (x3 : Int32) : CS × Int32 := (if x1 = (0 : Int32) then (if ((32 : Int32) < x3) then (m_moved_b53 st x2 x3) else (if ((m_bit x2 (((32 : Int32) - x3) &&& (31 : Int32))) = 0) then (m_moved_b53 st x2 x3) else (m_moved_b54 st x2 x3 (1 : Int32)))) else (if x1 = (1 : Int32) then (if ((32 : Int32) < x3) then (m_moved_b95 st x2 x3) else (if ((m_bit x2 ((x3 - (1 : Int32)) &&& (31 : Int32))) = 0) then (m_moved_b95 st x2 x3) else (m_moved_b96 st x2 x3 (1 : Int32)))) else (if x1 = (2 : Int32) then (if ((32 : Int32) ≤ x3) then (m_moved_b129 st x2 x3 x2 (31 : Int32)) else (m_moved_b129 st x2 x3 x2 (x3 - (1 : Int32)))) else (if (0 ≤ (m_turned x2 x3)) then (m_moved_b170 st (m_turned x2 x3) (0 : Int32)) else (m_moved_b170 st (m_turned x2 x3) (1 : Int32))))))
def o_m_moved (st : CS) (x1 : Int32) (x2 : Int32) (x3 : Int32) : Prop := ((x1 = (0 : Int32) → ((((32 : Int32) < x3) → (o_m_moved_b53 st x2 x3)) ∧ (¬ ((32 : Int32) < x3) → ((((m_bit x2 (((32 : Int32) - x3) &&& (31 : Int32))) = 0) → (o_m_moved_b53 st x2 x3)) ∧ (¬ ((m_bit x2 (((32 : Int32) - x3) &&& (31 : Int32))) = 0) → (o_m_moved_b54 st x2 x3 (1 : Int32))))))) ∧ (¬ x1 = (0 : Int32) → ((x1 = (1 : Int32) → ((((32 : Int32) < x3) → (o_m_moved_b95 st x2 x3)) ∧ (¬ ((32 : Int32) < x3) → ((((m_bit x2 ((x3 - (1 : Int32)) &&& (31 : Int32))) = 0) → (o_m_moved_b95 st x2 x3)) ∧ (¬ ((m_bit x2 ((x3 - (1 : Int32)) &&& (31 : Int32))) = 0) → (o_m_moved_b96 st x2 x3 (1 : Int32))))))) ∧ (¬ x1 = (1 : Int32) → ((x1 = (2 : Int32) → ((((32 : Int32) ≤ x3) → (o_m_moved_b129 st x2 x3 x2 (31 : Int32))) ∧ (¬ ((32 : Int32) ≤ x3) → (o_m_moved_b129 st x2 x3 x2 (x3 - (1 : Int32)))))) ∧ (¬ x1 = (2 : Int32) → (((0 ≤ (m_turned x2 x3)) → (o_m_moved_b170 st (m_turned x2 x3) (0 : Int32))) ∧ (¬ (0 ≤ (m_turned x2 x3)) → (o_m_moved_b170 st (m_turned x2 x3) (1 : Int32))))))))))
set_option maxHeartbeats 4000000 in
set_option maxRecDepth 100000 in
theorem k_m_moved {p : Program} {l : Launch} {e : Env} {s : State} {m : MethodId} {args : Array Value} {below : List Frame} {meth : Method} {c : Code} {A : Nat → Prop} (g : Gm) (C : cX p s m args meth c A cX11_moved (some .int) 5 RX11 wq_X11_moved (gD g) vwCl (mty g) (mz g)) (st : CS) (x1 : Int32) (x2 : Int32) (x3 : Int32) (H : Heap) (locs : List Loc) (ls : Array Slot) (hI : cI (gD g) vwCl (mw g) A s st H locs) (hl : lv_has ls 5 [(0, .ref (gad g 0)), (1, .int x1), (2, .int x2), (3, .int x3)]) (hO : o_m_moved st x1 x2 x3) (X : CS × Int32) (hF : X = m_moved st x1 x2 x3) : W p l e rm_m_moved s m args below meth c H locs 0 0 (MQ below (cQi (gD g) vwCl (mty g) (mw g) A X.1 X.2) args s 0 0 A) (F0 m 0 ls []) := by
  obtain ⟨hx, hb, hr, hml, hown, hts, hlocks, hK, hA, hZ, hzo⟩ := id C
  unfold m_moved at hF
  unfold o_m_moved at hO
  refine lv_iload_n hx hb dX11_moved_0 rfl (lv_at hl 1 rfl) ?_
  by_cases c_1_0 : x1 = (0 : Int32)
  · have hF := hF.trans (if_pos c_1_0)
    have hO := hO.1 c_1_0
    refine lv_tableIn (off := 27) (tgt := 28) hx hb dX11_moved_1 (by rw [c_1_0]; decide) (by rw [c_1_0]; decide) (by rw [c_1_0]; rfl) (by decide) ?_
    refine lv_aload_n hx hb dX11_moved_28 rfl (lv_at hl 0 rfl) ?_
    refine lv_iload_n hx hb dX11_moved_29 rfl (lv_at hl 3 rfl) ?_
    refine lv_bipush (v := (32 : Int32)) hx hb dX11_moved_30 (by decide) ?_
    refine lv_icmp_gt (tgt := 53) hx hb dX11_moved_32 (by decide) (fun c_32 => ?_) (fun c_32 => ?_)
    · have hF := hF.trans (if_pos c_32)
      have hO := hO.1 c_32
      exact k_m_moved_b53 g C st x2 x3 H locs ls hI (lv_sub hl [0, 2, 3] rfl) hO X hF
    · have hF := hF.trans (if_neg c_32)
      have hO := hO.2 c_32
      refine lv_iload_n hx hb dX11_moved_35 rfl (lv_at hl 2 rfl) ?_
      refine lv_bipush (v := (32 : Int32)) hx hb dX11_moved_36 (by decide) ?_
      refine lv_iload_n hx hb dX11_moved_38 rfl (lv_at hl 3 rfl) ?_
      refine lv_isub hx hb dX11_moved_39 ?_
      refine lv_bipush (v := (31 : Int32)) hx hb dX11_moved_40 (by decide) ?_
      refine lv_iand hx hb dX11_moved_42 ?_
      refine cx_Si (As := [.int x2, .int (((32 : Int32) - x3) &&& (31 : Int32))]) (rest := [.ref (gad g 0)]) C (c_m_bit l g st x2 (((32 : Int32) - x3) &&& (31 : Int32))) (va_cwS 2 hts (gd_S _ mw850 mw851 mw3 mw852) rfl rfl rfl yd_yX11_bit ⟨Nat.le_of_ble_eq_true rfl, Nat.le_of_ble_eq_true rfl⟩) hI rfl hl.1 rfl (Nat.le_of_ble_eq_true rfl) dX11_moved_43 (fun H locs hI => ?_)
      refine lv_if_eq (tgt := 53) hx hb dX11_moved_46 (by decide) (fun c_46 => ?_) (fun c_46 => ?_)
      · have hF := hF.trans (if_pos c_46)
        have hO := hO.1 c_46
        exact k_m_moved_b53 g C st x2 x3 H locs ls hI (lv_sub hl [0, 2, 3] rfl) hO X hF
      · have hF := hF.trans (if_neg c_46)
        have hO := hO.2 c_46
        refine lv_iconst (v := (1 : Int32)) hx hb dX11_moved_49 (by decide) ?_
        refine lv_goto (tgt := 54) hx hb dX11_moved_50 (by decide) ?_
        exact k_m_moved_b54 g C st x2 x3 (1 : Int32) H locs ls hI (lv_sub hl [0, 2, 3] rfl) hO X hF
  · have hF := hF.trans (if_neg c_1_0)
    have hO := hO.2 c_1_0
    by_cases c_1_1 : x1 = (1 : Int32)
    · have hF := hF.trans (if_pos c_1_1)
      have hO := hO.1 c_1_1
      refine lv_tableIn (off := 70) (tgt := 71) hx hb dX11_moved_1 (by rw [c_1_1]; decide) (by rw [c_1_1]; decide) (by rw [c_1_1]; rfl) (by decide) ?_
      refine lv_aload_n hx hb dX11_moved_71 rfl (lv_at hl 0 rfl) ?_
      refine lv_iload_n hx hb dX11_moved_72 rfl (lv_at hl 3 rfl) ?_
      refine lv_bipush (v := (32 : Int32)) hx hb dX11_moved_73 (by decide) ?_
      refine lv_icmp_gt (tgt := 95) hx hb dX11_moved_75 (by decide) (fun c_75 => ?_) (fun c_75 => ?_)
      · have hF := hF.trans (if_pos c_75)
        have hO := hO.1 c_75
        exact k_m_moved_b95 g C st x2 x3 H locs ls hI (lv_sub hl [0, 2, 3] rfl) hO X hF
      · have hF := hF.trans (if_neg c_75)
        have hO := hO.2 c_75
        refine lv_iload_n hx hb dX11_moved_78 rfl (lv_at hl 2 rfl) ?_
        refine lv_iload_n hx hb dX11_moved_79 rfl (lv_at hl 3 rfl) ?_
        refine lv_iconst (v := (1 : Int32)) hx hb dX11_moved_80 (by decide) ?_
        refine lv_isub hx hb dX11_moved_81 ?_
        refine lv_bipush (v := (31 : Int32)) hx hb dX11_moved_82 (by decide) ?_
        refine lv_iand hx hb dX11_moved_84 ?_
        refine cx_Si (As := [.int x2, .int ((x3 - (1 : Int32)) &&& (31 : Int32))]) (rest := [.ref (gad g 0)]) C (c_m_bit l g st x2 ((x3 - (1 : Int32)) &&& (31 : Int32))) (va_cwS 2 hts (gd_S _ mw850 mw851 mw3 mw852) rfl rfl rfl yd_yX11_bit ⟨Nat.le_of_ble_eq_true rfl, Nat.le_of_ble_eq_true rfl⟩) hI rfl hl.1 rfl (Nat.le_of_ble_eq_true rfl) dX11_moved_85 (fun H locs hI => ?_)
        refine lv_if_eq (tgt := 95) hx hb dX11_moved_88 (by decide) (fun c_88 => ?_) (fun c_88 => ?_)
        · have hF := hF.trans (if_pos c_88)
          have hO := hO.1 c_88
          exact k_m_moved_b95 g C st x2 x3 H locs ls hI (lv_sub hl [0, 2, 3] rfl) hO X hF
        · have hF := hF.trans (if_neg c_88)
          have hO := hO.2 c_88
          refine lv_iconst (v := (1 : Int32)) hx hb dX11_moved_91 (by decide) ?_
          refine lv_goto (tgt := 96) hx hb dX11_moved_92 (by decide) ?_
          exact k_m_moved_b96 g C st x2 x3 (1 : Int32) H locs ls hI (lv_sub hl [0, 2, 3] rfl) hO X hF
    · have hF := hF.trans (if_neg c_1_1)
      have hO := hO.2 c_1_1
      by_cases c_1_2 : x1 = (2 : Int32)
      · have hF := hF.trans (if_pos c_1_2)
        have hO := hO.1 c_1_2
        refine lv_tableIn (off := 112) (tgt := 113) hx hb dX11_moved_1 (by rw [c_1_2]; decide) (by rw [c_1_2]; decide) (by rw [c_1_2]; rfl) (by decide) ?_
        refine lv_aload_n hx hb dX11_moved_113 rfl (lv_at hl 0 rfl) ?_
        refine lv_iload_n hx hb dX11_moved_114 rfl (lv_at hl 2 rfl) ?_
        refine lv_iload_n hx hb dX11_moved_115 rfl (lv_at hl 3 rfl) ?_
        refine lv_bipush (v := (32 : Int32)) hx hb dX11_moved_116 (by decide) ?_
        refine lv_icmp_ge (tgt := 127) hx hb dX11_moved_118 (by decide) (fun c_118 => ?_) (fun c_118 => ?_)
        · have hF := hF.trans (if_pos c_118)
          have hO := hO.1 c_118
          refine lv_bipush (v := (31 : Int32)) hx hb dX11_moved_127 (by decide) ?_
          exact k_m_moved_b129 g C st x2 x3 x2 (31 : Int32) H locs ls hI (lv_sub hl [0, 2, 3] rfl) hO X hF
        · have hF := hF.trans (if_neg c_118)
          have hO := hO.2 c_118
          refine lv_iload_n hx hb dX11_moved_121 rfl (lv_at hl 3 rfl) ?_
          refine lv_iconst (v := (1 : Int32)) hx hb dX11_moved_122 (by decide) ?_
          refine lv_isub hx hb dX11_moved_123 ?_
          refine lv_goto (tgt := 129) hx hb dX11_moved_124 (by decide) ?_
          exact k_m_moved_b129 g C st x2 x3 x2 (x3 - (1 : Int32)) H locs ls hI (lv_sub hl [0, 2, 3] rfl) hO X hF
      · have hF := hF.trans (if_neg c_1_2)
        have hO := hO.2 c_1_2
        refine lv_tableOut (tgt := 152) hx hb dX11_moved_1 (by have h0 := lv_neT (a := 0) c_1_0 (by decide); have h1 := lv_neT (a := 1) c_1_1 (by decide); have h2 := lv_neT (a := 2) c_1_2 (by decide); omega) (by decide) ?_
        refine lv_iload_n hx hb dX11_moved_152 rfl (lv_at hl 2 rfl) ?_
        refine lv_iload_n hx hb dX11_moved_153 rfl (lv_at hl 3 rfl) ?_
        refine cx_Si (As := [.int x2, .int x3]) (rest := []) C (c_m_turned l g st x2 x3) (va_cwS 2 hts (gd_S _ mw843 mw844 mw3 mw845) rfl rfl rfl yd_yX11_turned ⟨Nat.le_of_ble_eq_true rfl, Nat.le_of_ble_eq_true rfl⟩) hI rfl hl.1 rfl (Nat.le_of_ble_eq_true rfl) dX11_moved_154 (fun H locs hI => ?_)
        refine lv_istore (lv' := [(4, .int (m_turned x2 x3)), (0, .ref (gad g 0)), (1, .int x1), (2, .int x2), (3, .int x3)]) hx hb dX11_moved_157 hl (by decide) rfl (fun ls hl => ?_)
        refine lv_aload_n hx hb dX11_moved_159 rfl (lv_at hl 1 rfl) ?_
        refine lv_iload hx hb dX11_moved_160 (lv_at hl 0 rfl) ?_
        refine lv_if_ge (tgt := 169) hx hb dX11_moved_162 (by decide) (fun c_162 => ?_) (fun c_162 => ?_)
        · have hF := hF.trans (if_pos c_162)
          have hO := hO.1 c_162
          refine lv_iconst (v := (0 : Int32)) hx hb dX11_moved_169 (by decide) ?_
          exact k_m_moved_b170 g C st (m_turned x2 x3) (0 : Int32) H locs ls hI (lv_sub hl [1, 0] rfl) hO X hF
        · have hF := hF.trans (if_neg c_162)
          have hO := hO.2 c_162
          refine lv_iconst (v := (1 : Int32)) hx hb dX11_moved_165 (by decide) ?_
          refine lv_goto (tgt := 170) hx hb dX11_moved_166 (by decide) ?_
          exact k_m_moved_b170 g C st (m_turned x2 x3) (1 : Int32) H locs ls hI (lv_sub hl [1, 0] rfl) hO X hF
set_option maxHeartbeats 4000000 in
set_option maxRecDepth 100000 in
theorem c_m_moved (l : Launch) (g : Gm) (st : CS) (x1 : Int32) (x2 : Int32) (x3 : Int32) (hO : o_m_moved st x1 x2 x3) : Mi l yX11_moved wq_X11_moved rm_m_moved (gD g) vwCl (mty g) (mw g) (mz g) [.ref (gad g 0), .int x1, .int x2, .int x3] st (m_moved st x1 x2 x3).1 (m_moved st x1 x2 x3).2 := by
  intro sz
  refine Met.ofW (cc := cX11_moved) (maxL := 5) (ret := (some .int)) (by decide) rfl ?_
  intro p e s m args below meth c s₁ B hml hv
  obtain ⟨rfl, hsz, hP, hK, hD0, hZ⟩ := hv
  subst hsz
  have hl := lv_entry ([.ref (gad g 0), .int x1, .int x2, .int x3]) (n := 5) (Nat.le_of_ble_eq_true rfl)
  rw [lg_entry_eq]
  generalize (lg_sl ([.ref (gad g 0), .int x1, .int x2, .int x3]) ++ List.replicate (5 - (lg_sl ([.ref (gad g 0), .int x1, .int x2, .int x3])).length) Slot.unset).toArray = ls at hl ⊢
  exact k_m_moved g ⟨B.exec, B.bytes, B.returns, hml, findClass_of_methodNamed B.named, atoms_spec (ws := wq_X11_moved) B.pre, B.notSynchronized, hK, fun q h => Or.inr h, hZ, mz_ok g⟩ st x1 x2 x3 _ _ ls ⟨hP, hD0.self, va_S.rf⟩ hl hO _ rfl
abbrev wq_X11_byNumber : List Cond := .code yX11_byNumber cX11_byNumber 6 (some .int) :: wAll
theorem yd_yX11_byNumber : yX11_byNumber.cls = RX11 ∧ yX11_byNumber.cls ≠ "java/lang/invoke/MethodHandle" ∧ yX11_byNumber.cls ≠ "java/lang/invoke/VarHandle" ∧ (parseMethodDescriptor yX11_byNumber.desc).map (fun d => d.parameters.length) = some 2 := by decide +kernel
abbrev rm_m_byNumber : Room := { frames := 2, cells := 0, slots := 0, locals := 45 }
def m_byNumber_b78 (st : CS) (x2 : Int32) (y1 : Int32) (y0 : Int32) : CS × Int32 := ((sI st 4 (m_bit x2 (0 : Int32))), (y1 ||| y0))
def o_m_byNumber_b78 (st : CS) (x2 : Int32) (y1 : Int32) (y0 : Int32) : Prop := (((m_bit x2 (0 : Int32)) = (0 : Int32) ∨ (m_bit x2 (0 : Int32)) = (1 : Int32)) ∧ True)
set_option maxHeartbeats 4000000 in
set_option maxRecDepth 100000 in
theorem k_m_byNumber_b78 {p : Program} {l : Launch} {e : Env} {s : State} {m : MethodId} {args : Array Value} {below : List Frame} {meth : Method} {c : Code} {A : Nat → Prop} (g : Gm) (C : cX p s m args meth c A cX11_byNumber (some .int) 6 RX11 wq_X11_byNumber (gD g) vwCl (mty g) (mz g)) (st : CS) (x2 : Int32) (y1 : Int32) (y0 : Int32) (H : Heap) (locs : List Loc) (ls : Array Slot) (hI : cI (gD g) vwCl (mw g) A s st H locs) (hl : lv_has ls 6 [(0, .ref (gad g 0)), (2, .int x2)]) (hO : o_m_byNumber_b78 st x2 y1 y0) (X : CS × Int32) (hF : X = m_byNumber_b78 st x2 y1 y0) : W p l e rm_m_byNumber s m args below meth c H locs 0 0 (MQ below (cQi (gD g) vwCl (mty g) (mw g) A X.1 X.2) args s 0 0 A) (F0 m 78 ls [.int y0, .int y1]) := by
  obtain ⟨hx, hb, hr, hml, hown, hts, hlocks, hK, hA, hZ, hzo⟩ := id C
  unfold m_byNumber_b78 at hF
  unfold o_m_byNumber_b78 at hO
  refine lv_ior hx hb dX11_byNumber_78 ?_
  refine lv_istore (lv' := [(5, .int (y1 ||| y0)), (0, .ref (gad g 0)), (2, .int x2)]) hx hb dX11_byNumber_79 hl (by decide) rfl (fun ls hl => ?_)
  refine lv_aload_n hx hb dX11_byNumber_81 rfl (lv_at hl 1 rfl) ?_
  refine lv_iload_n hx hb dX11_byNumber_82 rfl (lv_at hl 2 rfl) ?_
  refine lv_iconst (v := (0 : Int32)) hx hb dX11_byNumber_83 (by decide) ?_
  refine cx_Si (As := [.int x2, .int (0 : Int32)]) (rest := [.ref (gad g 0)]) C (c_m_bit l g st x2 (0 : Int32)) (va_cwS 2 hts (gd_S _ mw850 mw851 mw3 mw852) rfl rfl rfl yd_yX11_bit ⟨Nat.le_of_ble_eq_true rfl, Nat.le_of_ble_eq_true rfl⟩) hI rfl hl.1 rfl (Nat.le_of_ble_eq_true rfl) dX11_byNumber_84 (fun H locs hI => ?_)
  have hq_87_0 := hO.1
  have hO := hO.2
  refine va_put (D := gD g) (ci := 11) (C := RX11) (T := TX11) (N := 50) (v := .int (m_bit x2 (0 : Int32))) (ty := .boolean) hx hb hts (fun w h => List.mem_cons_of_mem _ (isX110 w h)) tyX11 tyX11_ok nmX11 hown hK hI.1 hI.2.1 hI.2.2 0 rfl rfl 8 (by decide) (hts _ (List.mem_cons_of_mem _ mw842)) (fun _ h9 => h9) rfl (by decide +kernel) (nar_b hq_87_0) (fit_b hq_87_0) (Nat.le_of_ble_eq_true rfl) dX11_byNumber_87 (fun H locs hP hD hS => ?_)
  have hI : cI (gD g) vwCl (mw g) A s (sI st 4 (m_bit x2 (0 : Int32))) H locs := ⟨hP, hD, hS⟩
  refine lv_iload hx hb dX11_byNumber_90 (lv_at hl 0 rfl) ?_
  exact cx_iret C hI (congrArg Prod.fst hF) (congrArg Prod.snd hF) dX11_byNumber_92
def m_byNumber (st : CS) (x1 : Int32) (x2 : Int32) : CS × Int32 := (if (((x1 >>> ((7 : Int32) &&& 31)) &&& (31 : Int32)) ≤ 0) then (if (((x1 >>> ((5 : Int32) &&& 31)) &&& (3 : Int32)) = 0) then ((sI st 4 (m_is st (29 : Int32))), x2) else (if ((3 : Int32) ≤ ((x1 >>> ((5 : Int32) &&& 31)) &&& (3 : Int32))) then (if ((m_is st (29 : Int32)) = 0) then (m_byNumber_b78 (sI st 4 (m_is st (29 : Int32))) x2 (ushr x2 (1 : Int32)) (0 : Int32)) else (m_byNumber_b78 (sI st 4 (m_is st (29 : Int32))) x2 (ushr x2 (1 : Int32)) (-2147483648 : Int32))) else ((m_moved (sI st 4 (m_is st (29 : Int32))) ((x1 >>> ((5 : Int32) &&& 31)) &&& (3 : Int32)) x2 (32 : Int32)).1, (m_moved (sI st 4 (m_is st (29 : Int32))) ((x1 >>> ((5 : Int32) &&& 31)) &&& (3 : Int32)) x2 (32 : Int32)).2))) else ((m_moved (sI st 4 (m_is st (29 : Int32))) ((x1 >>> ((5 : Int32) &&& 31)) &&& (3 : Int32)) x2 ((x1 >>> ((7 : Int32) &&& 31)) &&& (31 : Int32))).1, (m_moved (sI st 4 (m_is st (29 : Int32))) ((x1 >>> ((5 : Int32) &&& 31)) &&& (3 : Int32)) x2 ((x1 >>> ((7 : Int32) &&& 31)) &&& (31 : Int32))).2))
def o_m_byNumber (st : CS) (x1 : Int32) (x2 : Int32) : Prop := (((m_is st (29 : Int32)) = (0 : Int32) ∨ (m_is st (29 : Int32)) = (1 : Int32)) ∧ (((((x1 >>> ((7 : Int32) &&& 31)) &&& (31 : Int32)) ≤ 0) → (((((x1 >>> ((5 : Int32) &&& 31)) &&& (3 : Int32)) = 0) → True) ∧ (¬ (((x1 >>> ((5 : Int32) &&& 31)) &&& (3 : Int32)) = 0) → ((((3 : Int32) ≤ ((x1 >>> ((5 : Int32) &&& 31)) &&& (3 : Int32))) → ((((m_is st (29 : Int32)) = 0) → (o_m_byNumber_b78 (sI st 4 (m_is st (29 : Int32))) x2 (ushr x2 (1 : Int32)) (0 : Int32))) ∧ (¬ ((m_is st (29 : Int32)) = 0) → (o_m_byNumber_b78 (sI st 4 (m_is st (29 : Int32))) x2 (ushr x2 (1 : Int32)) (-2147483648 : Int32))))) ∧ (¬ ((3 : Int32) ≤ ((x1 >>> ((5 : Int32) &&& 31)) &&& (3 : Int32))) → ((o_m_moved (sI st 4 (m_is st (29 : Int32))) ((x1 >>> ((5 : Int32) &&& 31)) &&& (3 : Int32)) x2 (32 : Int32)) ∧ True)))))) ∧ (¬ (((x1 >>> ((7 : Int32) &&& 31)) &&& (31 : Int32)) ≤ 0) → ((o_m_moved (sI st 4 (m_is st (29 : Int32))) ((x1 >>> ((5 : Int32) &&& 31)) &&& (3 : Int32)) x2 ((x1 >>> ((7 : Int32) &&& 31)) &&& (31 : Int32))) ∧ True))))
set_option maxHeartbeats 4000000 in
set_option maxRecDepth 100000 in
theorem k_m_byNumber {p : Program} {l : Launch} {e : Env} {s : State} {m : MethodId} {args : Array Value} {below : List Frame} {meth : Method} {c : Code} {A : Nat → Prop} (g : Gm) (C : cX p s m args meth c A cX11_byNumber (some .int) 6 RX11 wq_X11_byNumber (gD g) vwCl (mty g) (mz g)) (st : CS) (x1 : Int32) (x2 : Int32) (H : Heap) (locs : List Loc) (ls : Array Slot) (hI : cI (gD g) vwCl (mw g) A s st H locs) (hl : lv_has ls 6 [(0, .ref (gad g 0)), (1, .int x1), (2, .int x2)]) (hO : o_m_byNumber st x1 x2) (X : CS × Int32) (hF : X = m_byNumber st x1 x2) : W p l e rm_m_byNumber s m args below meth c H locs 0 0 (MQ below (cQi (gD g) vwCl (mty g) (mw g) A X.1 X.2) args s 0 0 A) (F0 m 0 ls []) := by
  obtain ⟨hx, hb, hr, hml, hown, hts, hlocks, hK, hA, hZ, hzo⟩ := id C
  unfold m_byNumber at hF
  unfold o_m_byNumber at hO
  refine lv_iload_n hx hb dX11_byNumber_0 rfl (lv_at hl 1 rfl) ?_
  refine lv_bipush (v := (7 : Int32)) hx hb dX11_byNumber_1 (by decide) ?_
  refine lv_ishr hx hb dX11_byNumber_3 ?_
  refine lv_bipush (v := (31 : Int32)) hx hb dX11_byNumber_4 (by decide) ?_
  refine lv_iand hx hb dX11_byNumber_6 ?_
  refine lv_istore_n (lv' := [(3, .int ((x1 >>> ((7 : Int32) &&& 31)) &&& (31 : Int32))), (0, .ref (gad g 0)), (1, .int x1), (2, .int x2)]) hx hb dX11_byNumber_7 rfl hl (by decide) rfl (fun ls hl => ?_)
  refine lv_iload_n hx hb dX11_byNumber_8 rfl (lv_at hl 2 rfl) ?_
  refine lv_iconst (v := (5 : Int32)) hx hb dX11_byNumber_9 (by decide) ?_
  refine lv_ishr hx hb dX11_byNumber_10 ?_
  refine lv_iconst (v := (3 : Int32)) hx hb dX11_byNumber_11 (by decide) ?_
  refine lv_iand hx hb dX11_byNumber_12 ?_
  refine lv_istore (lv' := [(4, .int ((x1 >>> ((5 : Int32) &&& 31)) &&& (3 : Int32))), (3, .int ((x1 >>> ((7 : Int32) &&& 31)) &&& (31 : Int32))), (0, .ref (gad g 0)), (1, .int x1), (2, .int x2)]) hx hb dX11_byNumber_13 hl (by decide) rfl (fun ls hl => ?_)
  refine lv_aload_n hx hb dX11_byNumber_15 rfl (lv_at hl 2 rfl) ?_
  refine lv_aload_n hx hb dX11_byNumber_16 rfl (lv_at hl 2 rfl) ?_
  refine lv_bipush (v := (29 : Int32)) hx hb dX11_byNumber_17 (by decide) ?_
  refine cx_Vi (As := [.int (29 : Int32)]) (rest := [.ref (gad g 0)]) C (c_m_is l g st (29 : Int32)) (cwV 1 hts (gd_V _ mw761 mw762 mw763 mw3 mw764) rfl rfl rfl yd_yX11_is ⟨Nat.le_of_ble_eq_true rfl, Nat.le_of_ble_eq_true rfl⟩) (va_recv hK hI.1 (ci := 11) (q0 := 0) rfl rfl) hI rfl hl.1 rfl (Nat.le_of_ble_eq_true rfl) dX11_byNumber_19 (fun H locs hI => ?_)
  have hq_22_0 := hO.1
  have hO := hO.2
  refine va_put (D := gD g) (ci := 11) (C := RX11) (T := TX11) (N := 50) (v := .int (m_is st (29 : Int32))) (ty := .boolean) hx hb hts (fun w h => List.mem_cons_of_mem _ (isX110 w h)) tyX11 tyX11_ok nmX11 hown hK hI.1 hI.2.1 hI.2.2 0 rfl rfl 8 (by decide) (hts _ (List.mem_cons_of_mem _ mw842)) (fun _ h9 => h9) rfl (by decide +kernel) (nar_b hq_22_0) (fit_b hq_22_0) (Nat.le_of_ble_eq_true rfl) dX11_byNumber_22 (fun H locs hP hD hS => ?_)
  have hI : cI (gD g) vwCl (mw g) A s (sI st 4 (m_is st (29 : Int32))) H locs := ⟨hP, hD, hS⟩
  refine lv_iload_n hx hb dX11_byNumber_25 rfl (lv_at hl 1 rfl) ?_
  refine lv_if_le (tgt := 38) hx hb dX11_byNumber_26 (by decide) (fun c_26 => ?_) (fun c_26 => ?_)
  · have hF := hF.trans (if_pos c_26)
    have hO := hO.1 c_26
    refine lv_iload hx hb dX11_byNumber_38 (lv_at hl 0 rfl) ?_
    refine lv_if_ne (tgt := 45) hx hb dX11_byNumber_40 (by decide) (fun c_40 => ?_) (fun c_40 => ?_)
    · have hF := hF.trans (if_neg c_40)
      have hO := hO.2 c_40
      refine lv_iload hx hb dX11_byNumber_45 (lv_at hl 0 rfl) ?_
      refine lv_iconst (v := (3 : Int32)) hx hb dX11_byNumber_47 (by decide) ?_
      refine lv_icmp_ge (tgt := 61) hx hb dX11_byNumber_48 (by decide) (fun c_48 => ?_) (fun c_48 => ?_)
      · have hF := hF.trans (if_pos c_48)
        have hO := hO.1 c_48
        refine lv_iload_n hx hb dX11_byNumber_61 rfl (lv_at hl 4 rfl) ?_
        refine lv_iconst (v := (1 : Int32)) hx hb dX11_byNumber_62 (by decide) ?_
        refine lv_iushr (v := (ushr x2 (1 : Int32))) hx hb dX11_byNumber_63 rfl ?_
        refine lv_aload_n hx hb dX11_byNumber_64 rfl (lv_at hl 2 rfl) ?_
        refine va_get (D := gD g) (ci := 11) (C := RX11) (T := TX11) (N := 50) (v := .int (m_is st (29 : Int32))) hx hb hts (fun w h => List.mem_cons_of_mem _ (isX110 w h)) hown hK hI.1 0 rfl rfl 8 (by decide) (hts _ (List.mem_cons_of_mem _ mw842)) (fun _ h9 => h9) rfl dX11_byNumber_65 ?_
        refine lv_if_eq (tgt := 77) hx hb dX11_byNumber_68 (by decide) (fun c_68 => ?_) (fun c_68 => ?_)
        · have hF := hF.trans (if_pos c_68)
          have hO := hO.1 c_68
          refine lv_iconst (v := (0 : Int32)) hx hb dX11_byNumber_77 (by decide) ?_
          exact k_m_byNumber_b78 g C (sI st 4 (m_is st (29 : Int32))) x2 (ushr x2 (1 : Int32)) (0 : Int32) H locs ls hI (lv_sub hl [2, 4] rfl) hO X hF
        · have hF := hF.trans (if_neg c_68)
          have hO := hO.2 c_68
          refine lv_ldcw (v := (-2147483648 : Int32)) hx hb hown (hts _ (List.mem_cons_of_mem _ mw857)) dX11_byNumber_71 ?_
          refine lv_goto (tgt := 78) hx hb dX11_byNumber_74 (by decide) ?_
          exact k_m_byNumber_b78 g C (sI st 4 (m_is st (29 : Int32))) x2 (ushr x2 (1 : Int32)) (-2147483648 : Int32) H locs ls hI (lv_sub hl [2, 4] rfl) hO X hF
      · have hF := hF.trans (if_neg c_48)
        have hO := hO.2 c_48
        refine lv_aload_n hx hb dX11_byNumber_51 rfl (lv_at hl 2 rfl) ?_
        refine lv_iload hx hb dX11_byNumber_52 (lv_at hl 0 rfl) ?_
        refine lv_iload_n hx hb dX11_byNumber_54 rfl (lv_at hl 4 rfl) ?_
        refine lv_bipush (v := (32 : Int32)) hx hb dX11_byNumber_55 (by decide) ?_
        have hq_57_0 := hO.1
        have hO := hO.2
        refine cx_Vi (As := [.int ((x1 >>> ((5 : Int32) &&& 31)) &&& (3 : Int32)), .int x2, .int (32 : Int32)]) (rest := []) C (c_m_moved l g (sI st 4 (m_is st (29 : Int32))) ((x1 >>> ((5 : Int32) &&& 31)) &&& (3 : Int32)) x2 (32 : Int32) hq_57_0) (cwV 3 hts (gd_V _ mw846 mw847 mw848 mw3 mw849) rfl rfl rfl yd_yX11_moved ⟨Nat.le_of_ble_eq_true rfl, Nat.le_of_ble_eq_true rfl⟩) (va_recv hK hI.1 (ci := 11) (q0 := 0) rfl rfl) hI rfl hl.1 rfl (Nat.le_of_ble_eq_true rfl) dX11_byNumber_57 (fun H locs hI => ?_)
        exact cx_iret C hI (congrArg Prod.fst hF) (congrArg Prod.snd hF) dX11_byNumber_60
    · have hF := hF.trans (if_pos c_40)
      have hO := hO.1 c_40
      refine lv_iload_n hx hb dX11_byNumber_43 rfl (lv_at hl 4 rfl) ?_
      exact cx_iret C hI (congrArg Prod.fst hF) (congrArg Prod.snd hF) dX11_byNumber_44
  · have hF := hF.trans (if_neg c_26)
    have hO := hO.2 c_26
    refine lv_aload_n hx hb dX11_byNumber_29 rfl (lv_at hl 2 rfl) ?_
    refine lv_iload hx hb dX11_byNumber_30 (lv_at hl 0 rfl) ?_
    refine lv_iload_n hx hb dX11_byNumber_32 rfl (lv_at hl 4 rfl) ?_
    refine lv_iload_n hx hb dX11_byNumber_33 rfl (lv_at hl 1 rfl) ?_
    have hq_34_0 := hO.1
    have hO := hO.2
    refine cx_Vi (As := [.int ((x1 >>> ((5 : Int32) &&& 31)) &&& (3 : Int32)), .int x2, .int ((x1 >>> ((7 : Int32) &&& 31)) &&& (31 : Int32))]) (rest := []) C (c_m_moved l g (sI st 4 (m_is st (29 : Int32))) ((x1 >>> ((5 : Int32) &&& 31)) &&& (3 : Int32)) x2 ((x1 >>> ((7 : Int32) &&& 31)) &&& (31 : Int32)) hq_34_0) (cwV 3 hts (gd_V _ mw846 mw847 mw848 mw3 mw849) rfl rfl rfl yd_yX11_moved ⟨Nat.le_of_ble_eq_true rfl, Nat.le_of_ble_eq_true rfl⟩) (va_recv hK hI.1 (ci := 11) (q0 := 0) rfl rfl) hI rfl hl.1 rfl (Nat.le_of_ble_eq_true rfl) dX11_byNumber_34 (fun H locs hI => ?_)
    exact cx_iret C hI (congrArg Prod.fst hF) (congrArg Prod.snd hF) dX11_byNumber_37
set_option maxHeartbeats 4000000 in
set_option maxRecDepth 100000 in
theorem c_m_byNumber (l : Launch) (g : Gm) (st : CS) (x1 : Int32) (x2 : Int32) (hO : o_m_byNumber st x1 x2) : Mi l yX11_byNumber wq_X11_byNumber rm_m_byNumber (gD g) vwCl (mty g) (mw g) (mz g) [.ref (gad g 0), .int x1, .int x2] st (m_byNumber st x1 x2).1 (m_byNumber st x1 x2).2 := by
  intro sz
  refine Met.ofW (cc := cX11_byNumber) (maxL := 6) (ret := (some .int)) (by decide) rfl ?_
  intro p e s m args below meth c s₁ B hml hv
  obtain ⟨rfl, hsz, hP, hK, hD0, hZ⟩ := hv
  subst hsz
  have hl := lv_entry ([.ref (gad g 0), .int x1, .int x2]) (n := 6) (Nat.le_of_ble_eq_true rfl)
  rw [lg_entry_eq]
  generalize (lg_sl ([.ref (gad g 0), .int x1, .int x2]) ++ List.replicate (6 - (lg_sl ([.ref (gad g 0), .int x1, .int x2])).length) Slot.unset).toArray = ls at hl ⊢
  exact k_m_byNumber g ⟨B.exec, B.bytes, B.returns, hml, findClass_of_methodNamed B.named, atoms_spec (ws := wq_X11_byNumber) B.pre, B.notSynchronized, hK, fun q h => Or.inr h, hZ, mz_ok g⟩ st x1 x2 _ _ ls ⟨hP, hD0.self, va_S.rf⟩ hl hO _ rfl
abbrev wq_X11_summed : List Cond := .code yX11_summed cX11_summed 10 (some .int) :: wAll
theorem yd_yX11_summed : yX11_summed.cls = RX11 ∧ yX11_summed.cls ≠ "java/lang/invoke/MethodHandle" ∧ yX11_summed.cls ≠ "java/lang/invoke/VarHandle" ∧ (parseMethodDescriptor yX11_summed.desc).map (fun d => d.parameters.length) = some 4 := by decide +kernel
abbrev rm_m_summed : Room := { frames := 1, cells := 0, slots := 0, locals := 22 }
def m_summed_b76 (st : CS) (x9 : Int32) (y1 : Int32) (y0 : Int32) : CS × Int32 := ((m_set st y1 y0), x9)
set_option maxHeartbeats 4000000 in
set_option maxRecDepth 100000 in
theorem k_m_summed_b76 {p : Program} {l : Launch} {e : Env} {s : State} {m : MethodId} {args : Array Value} {below : List Frame} {meth : Method} {c : Code} {A : Nat → Prop} (g : Gm) (C : cX p s m args meth c A cX11_summed (some .int) 10 RX11 wq_X11_summed (gD g) vwCl (mty g) (mz g)) (st : CS) (x9 : Int32) (y1 : Int32) (y0 : Int32) (H : Heap) (locs : List Loc) (ls : Array Slot) (hI : cI (gD g) vwCl (mw g) A s st H locs) (hl : lv_has ls 10 [(0, .ref (gad g 0)), (9, .int x9)]) (X : CS × Int32) (hF : X = m_summed_b76 st x9 y1 y0) : W p l e rm_m_summed s m args below meth c H locs 0 0 (MQ below (cQi (gD g) vwCl (mty g) (mw g) A X.1 X.2) args s 0 0 A) (F0 m 76 ls [.int y0, .int y1, .ref (gad g 0)]) := by
  obtain ⟨hx, hb, hr, hml, hown, hts, hlocks, hK, hA, hZ, hzo⟩ := id C
  unfold m_summed_b76 at hF
  refine cx_Vv (As := [.int y1, .int y0]) (rest := []) C (c_m_set l g st y1 y0) (cwV 2 hts (gd_V _ mw773 mw774 mw775 mw3 mw776) rfl rfl rfl yd_yX11_set ⟨Nat.le_of_ble_eq_true rfl, Nat.le_of_ble_eq_true rfl⟩) (va_recv hK hI.1 (ci := 11) (q0 := 0) rfl rfl) hI rfl hl.1 rfl (Nat.le_of_ble_eq_true rfl) dX11_summed_76 (fun H locs hI => ?_)
  refine lv_iload hx hb dX11_summed_79 (lv_at hl 1 rfl) ?_
  exact cx_iret C hI (congrArg Prod.fst hF) (congrArg Prod.snd hF) dX11_summed_81
def m_summed_b59 (st : CS) (x7 : Int64) (x9 : Int32) : CS × Int32 := (if ((lg_cmp x7 (x9.toInt64)) = 0) then (m_summed_b76 st x9 (28 : Int32) (0 : Int32)) else (m_summed_b76 st x9 (28 : Int32) (1 : Int32)))
set_option maxHeartbeats 4000000 in
set_option maxRecDepth 100000 in
theorem k_m_summed_b59 {p : Program} {l : Launch} {e : Env} {s : State} {m : MethodId} {args : Array Value} {below : List Frame} {meth : Method} {c : Code} {A : Nat → Prop} (g : Gm) (C : cX p s m args meth c A cX11_summed (some .int) 10 RX11 wq_X11_summed (gD g) vwCl (mty g) (mz g)) (st : CS) (x7 : Int64) (x9 : Int32) (H : Heap) (locs : List Loc) (ls : Array Slot) (hI : cI (gD g) vwCl (mw g) A s st H locs) (hl : lv_has ls 10 [(0, .ref (gad g 0)), (7, .long x7), (9, .int x9)]) (X : CS × Int32) (hF : X = m_summed_b59 st x7 x9) : W p l e rm_m_summed s m args below meth c H locs 0 0 (MQ below (cQi (gD g) vwCl (mty g) (mw g) A X.1 X.2) args s 0 0 A) (F0 m 59 ls []) := by
  obtain ⟨hx, hb, hr, hml, hown, hts, hlocks, hK, hA, hZ, hzo⟩ := id C
  unfold m_summed_b59 at hF
  refine lv_aload_n hx hb dX11_summed_59 rfl (lv_at hl 0 rfl) ?_
  refine lv_bipush (v := (28 : Int32)) hx hb dX11_summed_60 (by decide) ?_
  refine lv_lload hx hb dX11_summed_62 (lv_at hl 1 rfl) ?_
  refine lv_iload hx hb dX11_summed_64 (lv_at hl 2 rfl) ?_
  refine lv_i2l (v := (x9.toInt64)) hx hb dX11_summed_66 rfl ?_
  refine W.lcmp hx hb dX11_summed_67 ?_
  refine lv_if_eq (tgt := 75) hx hb dX11_summed_68 (by decide) (fun c_68 => ?_) (fun c_68 => ?_)
  · have hF := hF.trans (if_pos c_68)
    refine lv_iconst (v := (0 : Int32)) hx hb dX11_summed_75 (by decide) ?_
    exact k_m_summed_b76 g C st x9 (28 : Int32) (0 : Int32) H locs ls hI (lv_sub hl [0, 2] rfl) X hF
  · have hF := hF.trans (if_neg c_68)
    refine lv_iconst (v := (1 : Int32)) hx hb dX11_summed_71 (by decide) ?_
    refine lv_goto (tgt := 76) hx hb dX11_summed_72 (by decide) ?_
    exact k_m_summed_b76 g C st x9 (28 : Int32) (1 : Int32) H locs ls hI (lv_sub hl [0, 2] rfl) X hF
def m_summed_b56 (st : CS) (x7 : Int64) (x9 : Int32) (y1 : Int32) (y0 : Int32) : CS × Int32 := (m_summed_b59 (m_set st y1 y0) x7 x9)
set_option maxHeartbeats 4000000 in
set_option maxRecDepth 100000 in
theorem k_m_summed_b56 {p : Program} {l : Launch} {e : Env} {s : State} {m : MethodId} {args : Array Value} {below : List Frame} {meth : Method} {c : Code} {A : Nat → Prop} (g : Gm) (C : cX p s m args meth c A cX11_summed (some .int) 10 RX11 wq_X11_summed (gD g) vwCl (mty g) (mz g)) (st : CS) (x7 : Int64) (x9 : Int32) (y1 : Int32) (y0 : Int32) (H : Heap) (locs : List Loc) (ls : Array Slot) (hI : cI (gD g) vwCl (mw g) A s st H locs) (hl : lv_has ls 10 [(0, .ref (gad g 0)), (7, .long x7), (9, .int x9)]) (X : CS × Int32) (hF : X = m_summed_b56 st x7 x9 y1 y0) : W p l e rm_m_summed s m args below meth c H locs 0 0 (MQ below (cQi (gD g) vwCl (mty g) (mw g) A X.1 X.2) args s 0 0 A) (F0 m 56 ls [.int y0, .int y1, .ref (gad g 0)]) := by
  obtain ⟨hx, hb, hr, hml, hown, hts, hlocks, hK, hA, hZ, hzo⟩ := id C
  unfold m_summed_b56 at hF
  refine cx_Vv (As := [.int y1, .int y0]) (rest := []) C (c_m_set l g st y1 y0) (cwV 2 hts (gd_V _ mw773 mw774 mw775 mw3 mw776) rfl rfl rfl yd_yX11_set ⟨Nat.le_of_ble_eq_true rfl, Nat.le_of_ble_eq_true rfl⟩) (va_recv hK hI.1 (ci := 11) (q0 := 0) rfl rfl) hI rfl hl.1 rfl (Nat.le_of_ble_eq_true rfl) dX11_summed_56 (fun H locs hI => ?_)
  exact k_m_summed_b59 g C (m_set st y1 y0) x7 x9 H locs ls hI (lv_sub hl [0, 1, 2] rfl) X hF
def m_summed (st : CS) (x1 : Int32) (x2 : Int32) (x3 : Int32) (x4 : Int32) : CS × Int32 := (if (x4 = 0) then (st, (((((x1.toInt64) &&& (4294967295 : Int64)) + ((x2.toInt64) &&& (4294967295 : Int64))) + (x3.toInt64)).toInt32)) else (if ((lg_cmp (((((x1.toInt64) &&& (4294967295 : Int64)) + ((x2.toInt64) &&& (4294967295 : Int64))) + (x3.toInt64)) >>> ((32 : Int32).toInt64 &&& 63)) (1 : Int64)) = 0) then (m_summed_b56 st (((x1.toInt64) + (x2.toInt64)) + (x3.toInt64)) (((((x1.toInt64) &&& (4294967295 : Int64)) + ((x2.toInt64) &&& (4294967295 : Int64))) + (x3.toInt64)).toInt32) (29 : Int32) (1 : Int32)) else (m_summed_b56 st (((x1.toInt64) + (x2.toInt64)) + (x3.toInt64)) (((((x1.toInt64) &&& (4294967295 : Int64)) + ((x2.toInt64) &&& (4294967295 : Int64))) + (x3.toInt64)).toInt32) (29 : Int32) (0 : Int32))))
set_option maxHeartbeats 4000000 in
set_option maxRecDepth 100000 in
theorem k_m_summed {p : Program} {l : Launch} {e : Env} {s : State} {m : MethodId} {args : Array Value} {below : List Frame} {meth : Method} {c : Code} {A : Nat → Prop} (g : Gm) (C : cX p s m args meth c A cX11_summed (some .int) 10 RX11 wq_X11_summed (gD g) vwCl (mty g) (mz g)) (st : CS) (x1 : Int32) (x2 : Int32) (x3 : Int32) (x4 : Int32) (H : Heap) (locs : List Loc) (ls : Array Slot) (hI : cI (gD g) vwCl (mw g) A s st H locs) (hl : lv_has ls 10 [(0, .ref (gad g 0)), (1, .int x1), (2, .int x2), (3, .int x3), (4, .int x4)]) (X : CS × Int32) (hF : X = m_summed st x1 x2 x3 x4) : W p l e rm_m_summed s m args below meth c H locs 0 0 (MQ below (cQi (gD g) vwCl (mty g) (mw g) A X.1 X.2) args s 0 0 A) (F0 m 0 ls []) := by
  obtain ⟨hx, hb, hr, hml, hown, hts, hlocks, hK, hA, hZ, hzo⟩ := id C
  unfold m_summed at hF
  refine lv_iload_n hx hb dX11_summed_0 rfl (lv_at hl 1 rfl) ?_
  refine lv_i2l (v := (x1.toInt64)) hx hb dX11_summed_1 rfl ?_
  refine lv_ldc2 (v := (4294967295 : Int64)) hx hb hown (hts _ (List.mem_cons_of_mem _ mw866)) dX11_summed_2 ?_
  refine lv_land hx hb dX11_summed_5 ?_
  refine lv_iload_n hx hb dX11_summed_6 rfl (lv_at hl 2 rfl) ?_
  refine lv_i2l (v := (x2.toInt64)) hx hb dX11_summed_7 rfl ?_
  refine lv_ldc2 (v := (4294967295 : Int64)) hx hb hown (hts _ (List.mem_cons_of_mem _ mw866)) dX11_summed_8 ?_
  refine lv_land hx hb dX11_summed_11 ?_
  refine lv_ladd hx hb dX11_summed_12 ?_
  refine lv_iload_n hx hb dX11_summed_13 rfl (lv_at hl 3 rfl) ?_
  refine lv_i2l (v := (x3.toInt64)) hx hb dX11_summed_14 rfl ?_
  refine lv_ladd hx hb dX11_summed_15 ?_
  refine lv_lstore (lv' := [(5, .long ((((x1.toInt64) &&& (4294967295 : Int64)) + ((x2.toInt64) &&& (4294967295 : Int64))) + (x3.toInt64))), (0, .ref (gad g 0)), (1, .int x1), (2, .int x2), (3, .int x3), (4, .int x4)]) hx hb dX11_summed_16 hl (by decide) rfl (fun ls hl => ?_)
  refine lv_iload_n hx hb dX11_summed_18 rfl (lv_at hl 2 rfl) ?_
  refine lv_i2l (v := (x1.toInt64)) hx hb dX11_summed_19 rfl ?_
  refine lv_iload_n hx hb dX11_summed_20 rfl (lv_at hl 3 rfl) ?_
  refine lv_i2l (v := (x2.toInt64)) hx hb dX11_summed_21 rfl ?_
  refine lv_ladd hx hb dX11_summed_22 ?_
  refine lv_iload_n hx hb dX11_summed_23 rfl (lv_at hl 4 rfl) ?_
  refine lv_i2l (v := (x3.toInt64)) hx hb dX11_summed_24 rfl ?_
  refine lv_ladd hx hb dX11_summed_25 ?_
  refine lv_lstore (lv' := [(7, .long (((x1.toInt64) + (x2.toInt64)) + (x3.toInt64))), (5, .long ((((x1.toInt64) &&& (4294967295 : Int64)) + ((x2.toInt64) &&& (4294967295 : Int64))) + (x3.toInt64))), (0, .ref (gad g 0)), (1, .int x1), (2, .int x2), (3, .int x3), (4, .int x4)]) hx hb dX11_summed_26 hl (by decide) rfl (fun ls hl => ?_)
  refine lv_lload hx hb dX11_summed_28 (lv_at hl 1 rfl) ?_
  refine lv_l2i (v := (((((x1.toInt64) &&& (4294967295 : Int64)) + ((x2.toInt64) &&& (4294967295 : Int64))) + (x3.toInt64)).toInt32)) hx hb dX11_summed_30 rfl ?_
  refine lv_istore (lv' := [(9, .int (((((x1.toInt64) &&& (4294967295 : Int64)) + ((x2.toInt64) &&& (4294967295 : Int64))) + (x3.toInt64)).toInt32)), (7, .long (((x1.toInt64) + (x2.toInt64)) + (x3.toInt64))), (5, .long ((((x1.toInt64) &&& (4294967295 : Int64)) + ((x2.toInt64) &&& (4294967295 : Int64))) + (x3.toInt64))), (0, .ref (gad g 0)), (1, .int x1), (2, .int x2), (3, .int x3), (4, .int x4)]) hx hb dX11_summed_31 hl (by decide) rfl (fun ls hl => ?_)
  refine lv_iload hx hb dX11_summed_33 (lv_at hl 7 rfl) ?_
  refine lv_if_eq (tgt := 79) hx hb dX11_summed_35 (by decide) (fun c_35 => ?_) (fun c_35 => ?_)
  · have hF := hF.trans (if_pos c_35)
    refine lv_iload hx hb dX11_summed_79 (lv_at hl 0 rfl) ?_
    exact cx_iret C hI (congrArg Prod.fst hF) (congrArg Prod.snd hF) dX11_summed_81
  · have hF := hF.trans (if_neg c_35)
    refine lv_aload_n hx hb dX11_summed_38 rfl (lv_at hl 3 rfl) ?_
    refine lv_bipush (v := (29 : Int32)) hx hb dX11_summed_39 (by decide) ?_
    refine lv_lload hx hb dX11_summed_41 (lv_at hl 2 rfl) ?_
    refine lv_bipush (v := (32 : Int32)) hx hb dX11_summed_43 (by decide) ?_
    refine lv_lshr (v := (((((x1.toInt64) &&& (4294967295 : Int64)) + ((x2.toInt64) &&& (4294967295 : Int64))) + (x3.toInt64)) >>> ((32 : Int32).toInt64 &&& 63))) hx hb dX11_summed_45 rfl ?_
    refine lv_lconst (v := (1 : Int64)) hx hb dX11_summed_46 (by decide) ?_
    refine W.lcmp hx hb dX11_summed_47 ?_
    refine lv_if_ne (tgt := 55) hx hb dX11_summed_48 (by decide) (fun c_48 => ?_) (fun c_48 => ?_)
    · have hF := hF.trans (if_neg c_48)
      refine lv_iconst (v := (0 : Int32)) hx hb dX11_summed_55 (by decide) ?_
      exact k_m_summed_b56 g C st (((x1.toInt64) + (x2.toInt64)) + (x3.toInt64)) (((((x1.toInt64) &&& (4294967295 : Int64)) + ((x2.toInt64) &&& (4294967295 : Int64))) + (x3.toInt64)).toInt32) (29 : Int32) (0 : Int32) H locs ls hI (lv_sub hl [3, 1, 0] rfl) X hF
    · have hF := hF.trans (if_pos c_48)
      refine lv_iconst (v := (1 : Int32)) hx hb dX11_summed_51 (by decide) ?_
      refine lv_goto (tgt := 56) hx hb dX11_summed_52 (by decide) ?_
      exact k_m_summed_b56 g C st (((x1.toInt64) + (x2.toInt64)) + (x3.toInt64)) (((((x1.toInt64) &&& (4294967295 : Int64)) + ((x2.toInt64) &&& (4294967295 : Int64))) + (x3.toInt64)).toInt32) (29 : Int32) (1 : Int32) H locs ls hI (lv_sub hl [3, 1, 0] rfl) X hF
set_option maxHeartbeats 4000000 in
set_option maxRecDepth 100000 in
theorem c_m_summed (l : Launch) (g : Gm) (st : CS) (x1 : Int32) (x2 : Int32) (x3 : Int32) (x4 : Int32) : Mi l yX11_summed wq_X11_summed rm_m_summed (gD g) vwCl (mty g) (mw g) (mz g) [.ref (gad g 0), .int x1, .int x2, .int x3, .int x4] st (m_summed st x1 x2 x3 x4).1 (m_summed st x1 x2 x3 x4).2 := by
  intro sz
  refine Met.ofW (cc := cX11_summed) (maxL := 10) (ret := (some .int)) (by decide) rfl ?_
  intro p e s m args below meth c s₁ B hml hv
  obtain ⟨rfl, hsz, hP, hK, hD0, hZ⟩ := hv
  subst hsz
  have hl := lv_entry ([.ref (gad g 0), .int x1, .int x2, .int x3, .int x4]) (n := 10) (Nat.le_of_ble_eq_true rfl)
  rw [lg_entry_eq]
  generalize (lg_sl ([.ref (gad g 0), .int x1, .int x2, .int x3, .int x4]) ++ List.replicate (10 - (lg_sl ([.ref (gad g 0), .int x1, .int x2, .int x3, .int x4])).length) Slot.unset).toArray = ls at hl ⊢
  exact k_m_summed g ⟨B.exec, B.bytes, B.returns, hml, findClass_of_methodNamed B.named, atoms_spec (ws := wq_X11_summed) B.pre, B.notSynchronized, hK, fun q h => Or.inr h, hZ, mz_ok g⟩ st x1 x2 x3 x4 _ _ ls ⟨hP, hD0.self, va_S.rf⟩ hl _ rfl
abbrev wq_X11_result : List Cond := .code yX11_result cX11_result 8 (some .int) :: wAll
theorem yd_yX11_result : yX11_result.cls = RX11 ∧ yX11_result.cls ≠ "java/lang/invoke/MethodHandle" ∧ yX11_result.cls ≠ "java/lang/invoke/VarHandle" ∧ (parseMethodDescriptor yX11_result.desc).map (fun d => d.parameters.length) = some 4 := by decide +kernel
abbrev rm_m_result : Room := { frames := 2, cells := 0, slots := 0, locals := 51 }
def m_result_b315 (st : CS) (x6 : Int32) (x7 : Int32) : CS × Int32 := (if (x7 = 0) then ((m_set st (29 : Int32) (gI st 4)), x6) else (st, x6))
set_option maxHeartbeats 4000000 in
set_option maxRecDepth 100000 in
theorem k_m_result_b315 {p : Program} {l : Launch} {e : Env} {s : State} {m : MethodId} {args : Array Value} {below : List Frame} {meth : Method} {c : Code} {A : Nat → Prop} (g : Gm) (C : cX p s m args meth c A cX11_result (some .int) 8 RX11 wq_X11_result (gD g) vwCl (mty g) (mz g)) (st : CS) (x6 : Int32) (x7 : Int32) (H : Heap) (locs : List Loc) (ls : Array Slot) (hI : cI (gD g) vwCl (mw g) A s st H locs) (hl : lv_has ls 8 [(0, .ref (gad g 0)), (6, .int x6), (7, .int x7)]) (X : CS × Int32) (hF : X = m_result_b315 st x6 x7) : W p l e rm_m_result s m args below meth c H locs 0 0 (MQ below (cQi (gD g) vwCl (mty g) (mw g) A X.1 X.2) args s 0 0 A) (F0 m 315 ls []) := by
  obtain ⟨hx, hb, hr, hml, hown, hts, hlocks, hK, hA, hZ, hzo⟩ := id C
  unfold m_result_b315 at hF
  refine lv_iload hx hb dX11_result_315 (lv_at hl 2 rfl) ?_
  refine lv_if_ne (tgt := 330) hx hb dX11_result_317 (by decide) (fun c_317 => ?_) (fun c_317 => ?_)
  · have hF := hF.trans (if_neg c_317)
    refine lv_iload hx hb dX11_result_330 (lv_at hl 1 rfl) ?_
    exact cx_iret C hI (congrArg Prod.fst hF) (congrArg Prod.snd hF) dX11_result_332
  · have hF := hF.trans (if_pos c_317)
    refine lv_aload_n hx hb dX11_result_320 rfl (lv_at hl 0 rfl) ?_
    refine lv_bipush (v := (29 : Int32)) hx hb dX11_result_321 (by decide) ?_
    refine lv_aload_n hx hb dX11_result_323 rfl (lv_at hl 0 rfl) ?_
    refine va_get (D := gD g) (ci := 11) (C := RX11) (T := TX11) (N := 50) (v := .int (gI st 4)) hx hb hts (fun w h => List.mem_cons_of_mem _ (isX110 w h)) hown hK hI.1 0 rfl rfl 8 (by decide) (hts _ (List.mem_cons_of_mem _ mw842)) (fun _ h9 => h9) rfl dX11_result_324 ?_
    refine cx_Vv (As := [.int (29 : Int32), .int (gI st 4)]) (rest := []) C (c_m_set l g st (29 : Int32) (gI st 4)) (cwV 2 hts (gd_V _ mw773 mw774 mw775 mw3 mw776) rfl rfl rfl yd_yX11_set ⟨Nat.le_of_ble_eq_true rfl, Nat.le_of_ble_eq_true rfl⟩) (va_recv hK hI.1 (ci := 11) (q0 := 0) rfl rfl) hI rfl hl.1 rfl (Nat.le_of_ble_eq_true rfl) dX11_result_327 (fun H locs hI => ?_)
    refine lv_iload hx hb dX11_result_330 (lv_at hl 1 rfl) ?_
    exact cx_iret C hI (congrArg Prod.fst hF) (congrArg Prod.snd hF) dX11_result_332
def m_result_b312 (st : CS) (x6 : Int32) (x7 : Int32) (y1 : Int32) (y0 : Int32) : CS × Int32 := (m_result_b315 (m_set st y1 y0) x6 x7)
set_option maxHeartbeats 4000000 in
set_option maxRecDepth 100000 in
theorem k_m_result_b312 {p : Program} {l : Launch} {e : Env} {s : State} {m : MethodId} {args : Array Value} {below : List Frame} {meth : Method} {c : Code} {A : Nat → Prop} (g : Gm) (C : cX p s m args meth c A cX11_result (some .int) 8 RX11 wq_X11_result (gD g) vwCl (mty g) (mz g)) (st : CS) (x6 : Int32) (x7 : Int32) (y1 : Int32) (y0 : Int32) (H : Heap) (locs : List Loc) (ls : Array Slot) (hI : cI (gD g) vwCl (mw g) A s st H locs) (hl : lv_has ls 8 [(0, .ref (gad g 0)), (6, .int x6), (7, .int x7)]) (X : CS × Int32) (hF : X = m_result_b312 st x6 x7 y1 y0) : W p l e rm_m_result s m args below meth c H locs 0 0 (MQ below (cQi (gD g) vwCl (mty g) (mw g) A X.1 X.2) args s 0 0 A) (F0 m 312 ls [.int y0, .int y1, .ref (gad g 0)]) := by
  obtain ⟨hx, hb, hr, hml, hown, hts, hlocks, hK, hA, hZ, hzo⟩ := id C
  unfold m_result_b312 at hF
  refine cx_Vv (As := [.int y1, .int y0]) (rest := []) C (c_m_set l g st y1 y0) (cwV 2 hts (gd_V _ mw773 mw774 mw775 mw3 mw776) rfl rfl rfl yd_yX11_set ⟨Nat.le_of_ble_eq_true rfl, Nat.le_of_ble_eq_true rfl⟩) (va_recv hK hI.1 (ci := 11) (q0 := 0) rfl rfl) hI rfl hl.1 rfl (Nat.le_of_ble_eq_true rfl) dX11_result_312 (fun H locs hI => ?_)
  exact k_m_result_b315 g C (m_set st y1 y0) x6 x7 H locs ls hI (lv_sub hl [0, 1, 2] rfl) X hF
def m_result_b299 (st : CS) (x6 : Int32) (x7 : Int32) : CS × Int32 := (if (x6 = 0) then (m_result_b312 st x6 x7 (30 : Int32) (1 : Int32)) else (m_result_b312 st x6 x7 (30 : Int32) (0 : Int32)))
set_option maxHeartbeats 4000000 in
set_option maxRecDepth 100000 in
theorem k_m_result_b299 {p : Program} {l : Launch} {e : Env} {s : State} {m : MethodId} {args : Array Value} {below : List Frame} {meth : Method} {c : Code} {A : Nat → Prop} (g : Gm) (C : cX p s m args meth c A cX11_result (some .int) 8 RX11 wq_X11_result (gD g) vwCl (mty g) (mz g)) (st : CS) (x6 : Int32) (x7 : Int32) (H : Heap) (locs : List Loc) (ls : Array Slot) (hI : cI (gD g) vwCl (mw g) A s st H locs) (hl : lv_has ls 8 [(0, .ref (gad g 0)), (6, .int x6), (7, .int x7)]) (X : CS × Int32) (hF : X = m_result_b299 st x6 x7) : W p l e rm_m_result s m args below meth c H locs 0 0 (MQ below (cQi (gD g) vwCl (mty g) (mw g) A X.1 X.2) args s 0 0 A) (F0 m 299 ls []) := by
  obtain ⟨hx, hb, hr, hml, hown, hts, hlocks, hK, hA, hZ, hzo⟩ := id C
  unfold m_result_b299 at hF
  refine lv_aload_n hx hb dX11_result_299 rfl (lv_at hl 0 rfl) ?_
  refine lv_bipush (v := (30 : Int32)) hx hb dX11_result_300 (by decide) ?_
  refine lv_iload hx hb dX11_result_302 (lv_at hl 1 rfl) ?_
  refine lv_if_ne (tgt := 311) hx hb dX11_result_304 (by decide) (fun c_304 => ?_) (fun c_304 => ?_)
  · have hF := hF.trans (if_neg c_304)
    refine lv_iconst (v := (0 : Int32)) hx hb dX11_result_311 (by decide) ?_
    exact k_m_result_b312 g C st x6 x7 (30 : Int32) (0 : Int32) H locs ls hI (lv_sub hl [0, 1, 2] rfl) X hF
  · have hF := hF.trans (if_pos c_304)
    refine lv_iconst (v := (1 : Int32)) hx hb dX11_result_307 (by decide) ?_
    refine lv_goto (tgt := 312) hx hb dX11_result_308 (by decide) ?_
    exact k_m_result_b312 g C st x6 x7 (30 : Int32) (1 : Int32) H locs ls hI (lv_sub hl [0, 1, 2] rfl) X hF
def m_result_b296 (st : CS) (x6 : Int32) (x7 : Int32) (y1 : Int32) (y0 : Int32) : CS × Int32 := (m_result_b299 (m_set st y1 y0) x6 x7)
set_option maxHeartbeats 4000000 in
set_option maxRecDepth 100000 in
theorem k_m_result_b296 {p : Program} {l : Launch} {e : Env} {s : State} {m : MethodId} {args : Array Value} {below : List Frame} {meth : Method} {c : Code} {A : Nat → Prop} (g : Gm) (C : cX p s m args meth c A cX11_result (some .int) 8 RX11 wq_X11_result (gD g) vwCl (mty g) (mz g)) (st : CS) (x6 : Int32) (x7 : Int32) (y1 : Int32) (y0 : Int32) (H : Heap) (locs : List Loc) (ls : Array Slot) (hI : cI (gD g) vwCl (mw g) A s st H locs) (hl : lv_has ls 8 [(0, .ref (gad g 0)), (6, .int x6), (7, .int x7)]) (X : CS × Int32) (hF : X = m_result_b296 st x6 x7 y1 y0) : W p l e rm_m_result s m args below meth c H locs 0 0 (MQ below (cQi (gD g) vwCl (mty g) (mw g) A X.1 X.2) args s 0 0 A) (F0 m 296 ls [.int y0, .int y1, .ref (gad g 0)]) := by
  obtain ⟨hx, hb, hr, hml, hown, hts, hlocks, hK, hA, hZ, hzo⟩ := id C
  unfold m_result_b296 at hF
  refine cx_Vv (As := [.int y1, .int y0]) (rest := []) C (c_m_set l g st y1 y0) (cwV 2 hts (gd_V _ mw773 mw774 mw775 mw3 mw776) rfl rfl rfl yd_yX11_set ⟨Nat.le_of_ble_eq_true rfl, Nat.le_of_ble_eq_true rfl⟩) (va_recv hK hI.1 (ci := 11) (q0 := 0) rfl rfl) hI rfl hl.1 rfl (Nat.le_of_ble_eq_true rfl) dX11_result_296 (fun H locs hI => ?_)
  exact k_m_result_b299 g C (m_set st y1 y0) x6 x7 H locs ls hI (lv_sub hl [0, 1, 2] rfl) X hF
def m_result_b276 (st : CS) (x4 : Int32) (x6 : Int32) (y0 : Int32) : CS × Int32 := (if (x4 = 0) then (st, x6) else (if (0 ≤ x6) then (m_result_b296 st x6 y0 (31 : Int32) (0 : Int32)) else (m_result_b296 st x6 y0 (31 : Int32) (1 : Int32))))
set_option maxHeartbeats 4000000 in
set_option maxRecDepth 100000 in
theorem k_m_result_b276 {p : Program} {l : Launch} {e : Env} {s : State} {m : MethodId} {args : Array Value} {below : List Frame} {meth : Method} {c : Code} {A : Nat → Prop} (g : Gm) (C : cX p s m args meth c A cX11_result (some .int) 8 RX11 wq_X11_result (gD g) vwCl (mty g) (mz g)) (st : CS) (x4 : Int32) (x6 : Int32) (y0 : Int32) (H : Heap) (locs : List Loc) (ls : Array Slot) (hI : cI (gD g) vwCl (mw g) A s st H locs) (hl : lv_has ls 8 [(0, .ref (gad g 0)), (4, .int x4), (6, .int x6)]) (X : CS × Int32) (hF : X = m_result_b276 st x4 x6 y0) : W p l e rm_m_result s m args below meth c H locs 0 0 (MQ below (cQi (gD g) vwCl (mty g) (mw g) A X.1 X.2) args s 0 0 A) (F0 m 276 ls [.int y0]) := by
  obtain ⟨hx, hb, hr, hml, hown, hts, hlocks, hK, hA, hZ, hzo⟩ := id C
  unfold m_result_b276 at hF
  refine lv_istore (lv' := [(7, .int y0), (0, .ref (gad g 0)), (4, .int x4), (6, .int x6)]) hx hb dX11_result_276 hl (by decide) rfl (fun ls hl => ?_)
  refine lv_iload hx hb dX11_result_278 (lv_at hl 2 rfl) ?_
  refine lv_if_eq (tgt := 330) hx hb dX11_result_280 (by decide) (fun c_280 => ?_) (fun c_280 => ?_)
  · have hF := hF.trans (if_pos c_280)
    refine lv_iload hx hb dX11_result_330 (lv_at hl 3 rfl) ?_
    exact cx_iret C hI (congrArg Prod.fst hF) (congrArg Prod.snd hF) dX11_result_332
  · have hF := hF.trans (if_neg c_280)
    refine lv_aload_n hx hb dX11_result_283 rfl (lv_at hl 1 rfl) ?_
    refine lv_bipush (v := (31 : Int32)) hx hb dX11_result_284 (by decide) ?_
    refine lv_iload hx hb dX11_result_286 (lv_at hl 3 rfl) ?_
    refine lv_if_ge (tgt := 295) hx hb dX11_result_288 (by decide) (fun c_288 => ?_) (fun c_288 => ?_)
    · have hF := hF.trans (if_pos c_288)
      refine lv_iconst (v := (0 : Int32)) hx hb dX11_result_295 (by decide) ?_
      exact k_m_result_b296 g C st x6 y0 (31 : Int32) (0 : Int32) H locs ls hI (lv_sub hl [1, 3, 0] rfl) X hF
    · have hF := hF.trans (if_neg c_288)
      refine lv_iconst (v := (1 : Int32)) hx hb dX11_result_291 (by decide) ?_
      refine lv_goto (tgt := 296) hx hb dX11_result_292 (by decide) ?_
      exact k_m_result_b296 g C st x6 y0 (31 : Int32) (1 : Int32) H locs ls hI (lv_sub hl [1, 3, 0] rfl) X hF
def m_result_b271 (st : CS) (x4 : Int32) (x6 : Int32) : CS × Int32 := (m_result_b276 st x4 x6 (1 : Int32))
set_option maxHeartbeats 4000000 in
set_option maxRecDepth 100000 in
theorem k_m_result_b271 {p : Program} {l : Launch} {e : Env} {s : State} {m : MethodId} {args : Array Value} {below : List Frame} {meth : Method} {c : Code} {A : Nat → Prop} (g : Gm) (C : cX p s m args meth c A cX11_result (some .int) 8 RX11 wq_X11_result (gD g) vwCl (mty g) (mz g)) (st : CS) (x4 : Int32) (x6 : Int32) (H : Heap) (locs : List Loc) (ls : Array Slot) (hI : cI (gD g) vwCl (mw g) A s st H locs) (hl : lv_has ls 8 [(0, .ref (gad g 0)), (4, .int x4), (6, .int x6)]) (X : CS × Int32) (hF : X = m_result_b271 st x4 x6) : W p l e rm_m_result s m args below meth c H locs 0 0 (MQ below (cQi (gD g) vwCl (mty g) (mw g) A X.1 X.2) args s 0 0 A) (F0 m 271 ls []) := by
  obtain ⟨hx, hb, hr, hml, hown, hts, hlocks, hK, hA, hZ, hzo⟩ := id C
  unfold m_result_b271 at hF
  refine lv_iconst (v := (1 : Int32)) hx hb dX11_result_271 (by decide) ?_
  refine lv_goto (tgt := 276) hx hb dX11_result_272 (by decide) ?_
  exact k_m_result_b276 g C st x4 x6 (1 : Int32) H locs ls hI (lv_sub hl [0, 1, 2] rfl) X hF
def m_result_b259 (st : CS) (x1 : Int32) (x4 : Int32) (x6 : Int32) : CS × Int32 := (if (x1 = (10 : Int32)) then (m_result_b271 st x4 x6) else (if (x1 = (11 : Int32)) then (m_result_b271 st x4 x6) else (m_result_b276 st x4 x6 (0 : Int32))))
set_option maxHeartbeats 4000000 in
set_option maxRecDepth 100000 in
theorem k_m_result_b259 {p : Program} {l : Launch} {e : Env} {s : State} {m : MethodId} {args : Array Value} {below : List Frame} {meth : Method} {c : Code} {A : Nat → Prop} (g : Gm) (C : cX p s m args meth c A cX11_result (some .int) 8 RX11 wq_X11_result (gD g) vwCl (mty g) (mz g)) (st : CS) (x1 : Int32) (x4 : Int32) (x6 : Int32) (H : Heap) (locs : List Loc) (ls : Array Slot) (hI : cI (gD g) vwCl (mw g) A s st H locs) (hl : lv_has ls 8 [(0, .ref (gad g 0)), (1, .int x1), (4, .int x4), (6, .int x6)]) (X : CS × Int32) (hF : X = m_result_b259 st x1 x4 x6) : W p l e rm_m_result s m args below meth c H locs 0 0 (MQ below (cQi (gD g) vwCl (mty g) (mw g) A X.1 X.2) args s 0 0 A) (F0 m 259 ls []) := by
  obtain ⟨hx, hb, hr, hml, hown, hts, hlocks, hK, hA, hZ, hzo⟩ := id C
  unfold m_result_b259 at hF
  refine lv_iload_n hx hb dX11_result_259 rfl (lv_at hl 1 rfl) ?_
  refine lv_bipush (v := (10 : Int32)) hx hb dX11_result_260 (by decide) ?_
  refine lv_icmp_eq (tgt := 271) hx hb dX11_result_262 (by decide) (fun c_262 => ?_) (fun c_262 => ?_)
  · have hF := hF.trans (if_pos c_262)
    exact k_m_result_b271 g C st x4 x6 H locs ls hI (lv_sub hl [0, 2, 3] rfl) X hF
  · have hF := hF.trans (if_neg c_262)
    refine lv_iload_n hx hb dX11_result_265 rfl (lv_at hl 1 rfl) ?_
    refine lv_bipush (v := (11 : Int32)) hx hb dX11_result_266 (by decide) ?_
    refine lv_icmp_ne (tgt := 275) hx hb dX11_result_268 (by decide) (fun c_268 => ?_) (fun c_268 => ?_)
    · have hF := hF.trans (if_neg c_268)
      refine lv_iconst (v := (0 : Int32)) hx hb dX11_result_275 (by decide) ?_
      exact k_m_result_b276 g C st x4 x6 (0 : Int32) H locs ls hI (lv_sub hl [0, 2, 3] rfl) X hF
    · have hF := hF.trans (if_pos c_268)
      exact k_m_result_b271 g C st x4 x6 H locs ls hI (lv_sub hl [0, 2, 3] rfl) X hF
def m_result_b248 (st : CS) (x1 : Int32) (x4 : Int32) (x6 : Int32) : CS × Int32 := (if (x1 ≤ (1 : Int32)) then (m_result_b259 st x1 x4 x6) else (if (x1 < (8 : Int32)) then (m_result_b271 st x4 x6) else (m_result_b259 st x1 x4 x6)))
set_option maxHeartbeats 4000000 in
set_option maxRecDepth 100000 in
theorem k_m_result_b248 {p : Program} {l : Launch} {e : Env} {s : State} {m : MethodId} {args : Array Value} {below : List Frame} {meth : Method} {c : Code} {A : Nat → Prop} (g : Gm) (C : cX p s m args meth c A cX11_result (some .int) 8 RX11 wq_X11_result (gD g) vwCl (mty g) (mz g)) (st : CS) (x1 : Int32) (x4 : Int32) (x6 : Int32) (H : Heap) (locs : List Loc) (ls : Array Slot) (hI : cI (gD g) vwCl (mw g) A s st H locs) (hl : lv_has ls 8 [(0, .ref (gad g 0)), (1, .int x1), (4, .int x4), (6, .int x6)]) (X : CS × Int32) (hF : X = m_result_b248 st x1 x4 x6) : W p l e rm_m_result s m args below meth c H locs 0 0 (MQ below (cQi (gD g) vwCl (mty g) (mw g) A X.1 X.2) args s 0 0 A) (F0 m 248 ls []) := by
  obtain ⟨hx, hb, hr, hml, hown, hts, hlocks, hK, hA, hZ, hzo⟩ := id C
  unfold m_result_b248 at hF
  refine lv_iload_n hx hb dX11_result_248 rfl (lv_at hl 1 rfl) ?_
  refine lv_iconst (v := (1 : Int32)) hx hb dX11_result_249 (by decide) ?_
  refine lv_icmp_le (tgt := 259) hx hb dX11_result_250 (by decide) (fun c_250 => ?_) (fun c_250 => ?_)
  · have hF := hF.trans (if_pos c_250)
    exact k_m_result_b259 g C st x1 x4 x6 H locs ls hI (lv_sub hl [0, 1, 2, 3] rfl) X hF
  · have hF := hF.trans (if_neg c_250)
    refine lv_iload_n hx hb dX11_result_253 rfl (lv_at hl 1 rfl) ?_
    refine lv_bipush (v := (8 : Int32)) hx hb dX11_result_254 (by decide) ?_
    refine lv_icmp_lt (tgt := 271) hx hb dX11_result_256 (by decide) (fun c_256 => ?_) (fun c_256 => ?_)
    · have hF := hF.trans (if_pos c_256)
      exact k_m_result_b271 g C st x4 x6 H locs ls hI (lv_sub hl [0, 2, 3] rfl) X hF
    · have hF := hF.trans (if_neg c_256)
      exact k_m_result_b259 g C st x1 x4 x6 H locs ls hI (lv_sub hl [0, 1, 2, 3] rfl) X hF
def m_result_b203 (st : CS) (x1 : Int32) (x2 : Int32) (x3 : Int32) (x4 : Int32) : CS × Int32 := (m_result_b248 st x1 x4 (x2 &&& x3))
set_option maxHeartbeats 4000000 in
set_option maxRecDepth 100000 in
theorem k_m_result_b203 {p : Program} {l : Launch} {e : Env} {s : State} {m : MethodId} {args : Array Value} {below : List Frame} {meth : Method} {c : Code} {A : Nat → Prop} (g : Gm) (C : cX p s m args meth c A cX11_result (some .int) 8 RX11 wq_X11_result (gD g) vwCl (mty g) (mz g)) (st : CS) (x1 : Int32) (x2 : Int32) (x3 : Int32) (x4 : Int32) (H : Heap) (locs : List Loc) (ls : Array Slot) (hI : cI (gD g) vwCl (mw g) A s st H locs) (hl : lv_has ls 8 [(0, .ref (gad g 0)), (1, .int x1), (2, .int x2), (3, .int x3), (4, .int x4)]) (X : CS × Int32) (hF : X = m_result_b203 st x1 x2 x3 x4) : W p l e rm_m_result s m args below meth c H locs 0 0 (MQ below (cQi (gD g) vwCl (mty g) (mw g) A X.1 X.2) args s 0 0 A) (F0 m 203 ls []) := by
  obtain ⟨hx, hb, hr, hml, hown, hts, hlocks, hK, hA, hZ, hzo⟩ := id C
  unfold m_result_b203 at hF
  refine lv_iload_n hx hb dX11_result_203 rfl (lv_at hl 2 rfl) ?_
  refine lv_iload_n hx hb dX11_result_204 rfl (lv_at hl 3 rfl) ?_
  refine lv_iand hx hb dX11_result_205 ?_
  refine lv_istore (lv' := [(6, .int (x2 &&& x3)), (0, .ref (gad g 0)), (1, .int x1), (2, .int x2), (3, .int x3), (4, .int x4)]) hx hb dX11_result_206 hl (by decide) rfl (fun ls hl => ?_)
  refine lv_goto (tgt := 248) hx hb dX11_result_208 (by decide) ?_
  exact k_m_result_b248 g C st x1 x4 (x2 &&& x3) H locs ls hI (lv_sub hl [1, 2, 5, 0] rfl) X hF
def m_result_b211 (st : CS) (x1 : Int32) (x2 : Int32) (x3 : Int32) (x4 : Int32) : CS × Int32 := (m_result_b248 st x1 x4 (x2 ^^^ x3))
set_option maxHeartbeats 4000000 in
set_option maxRecDepth 100000 in
theorem k_m_result_b211 {p : Program} {l : Launch} {e : Env} {s : State} {m : MethodId} {args : Array Value} {below : List Frame} {meth : Method} {c : Code} {A : Nat → Prop} (g : Gm) (C : cX p s m args meth c A cX11_result (some .int) 8 RX11 wq_X11_result (gD g) vwCl (mty g) (mz g)) (st : CS) (x1 : Int32) (x2 : Int32) (x3 : Int32) (x4 : Int32) (H : Heap) (locs : List Loc) (ls : Array Slot) (hI : cI (gD g) vwCl (mw g) A s st H locs) (hl : lv_has ls 8 [(0, .ref (gad g 0)), (1, .int x1), (2, .int x2), (3, .int x3), (4, .int x4)]) (X : CS × Int32) (hF : X = m_result_b211 st x1 x2 x3 x4) : W p l e rm_m_result s m args below meth c H locs 0 0 (MQ below (cQi (gD g) vwCl (mty g) (mw g) A X.1 X.2) args s 0 0 A) (F0 m 211 ls []) := by
  obtain ⟨hx, hb, hr, hml, hown, hts, hlocks, hK, hA, hZ, hzo⟩ := id C
  unfold m_result_b211 at hF
  refine lv_iload_n hx hb dX11_result_211 rfl (lv_at hl 2 rfl) ?_
  refine lv_iload_n hx hb dX11_result_212 rfl (lv_at hl 3 rfl) ?_
  refine lv_ixor hx hb dX11_result_213 ?_
  refine lv_istore (lv' := [(6, .int (x2 ^^^ x3)), (0, .ref (gad g 0)), (1, .int x1), (2, .int x2), (3, .int x3), (4, .int x4)]) hx hb dX11_result_214 hl (by decide) rfl (fun ls hl => ?_)
  refine lv_goto (tgt := 248) hx hb dX11_result_216 (by decide) ?_
  exact k_m_result_b248 g C st x1 x4 (x2 ^^^ x3) H locs ls hI (lv_sub hl [1, 2, 5, 0] rfl) X hF
def m_result_b95 (st : CS) (x1 : Int32) (x4 : Int32) (y0 : Int32) : CS × Int32 := (m_result_b248 st x1 x4 y0)
set_option maxHeartbeats 4000000 in
set_option maxRecDepth 100000 in
theorem k_m_result_b95 {p : Program} {l : Launch} {e : Env} {s : State} {m : MethodId} {args : Array Value} {below : List Frame} {meth : Method} {c : Code} {A : Nat → Prop} (g : Gm) (C : cX p s m args meth c A cX11_result (some .int) 8 RX11 wq_X11_result (gD g) vwCl (mty g) (mz g)) (st : CS) (x1 : Int32) (x4 : Int32) (y0 : Int32) (H : Heap) (locs : List Loc) (ls : Array Slot) (hI : cI (gD g) vwCl (mw g) A s st H locs) (hl : lv_has ls 8 [(0, .ref (gad g 0)), (1, .int x1), (4, .int x4)]) (X : CS × Int32) (hF : X = m_result_b95 st x1 x4 y0) : W p l e rm_m_result s m args below meth c H locs 0 0 (MQ below (cQi (gD g) vwCl (mty g) (mw g) A X.1 X.2) args s 0 0 A) (F0 m 95 ls [.int y0]) := by
  obtain ⟨hx, hb, hr, hml, hown, hts, hlocks, hK, hA, hZ, hzo⟩ := id C
  unfold m_result_b95 at hF
  refine lv_istore (lv' := [(6, .int y0), (0, .ref (gad g 0)), (1, .int x1), (4, .int x4)]) hx hb dX11_result_95 hl (by decide) rfl (fun ls hl => ?_)
  refine lv_goto (tgt := 248) hx hb dX11_result_97 (by decide) ?_
  exact k_m_result_b248 g C st x1 x4 y0 H locs ls hI (lv_sub hl [1, 2, 3, 0] rfl) X hF
def m_result_b84 (st : CS) (x1 : Int32) (x2 : Int32) (x3 : Int32) (x4 : Int32) : CS × Int32 := (m_result_b95 (m_summed st x2 (x3 ^^^ (-1 : Int32)) (1 : Int32) x4).1 x1 x4 (m_summed st x2 (x3 ^^^ (-1 : Int32)) (1 : Int32) x4).2)
set_option maxHeartbeats 4000000 in
set_option maxRecDepth 100000 in
theorem k_m_result_b84 {p : Program} {l : Launch} {e : Env} {s : State} {m : MethodId} {args : Array Value} {below : List Frame} {meth : Method} {c : Code} {A : Nat → Prop} (g : Gm) (C : cX p s m args meth c A cX11_result (some .int) 8 RX11 wq_X11_result (gD g) vwCl (mty g) (mz g)) (st : CS) (x1 : Int32) (x2 : Int32) (x3 : Int32) (x4 : Int32) (H : Heap) (locs : List Loc) (ls : Array Slot) (hI : cI (gD g) vwCl (mw g) A s st H locs) (hl : lv_has ls 8 [(0, .ref (gad g 0)), (1, .int x1), (2, .int x2), (3, .int x3), (4, .int x4)]) (X : CS × Int32) (hF : X = m_result_b84 st x1 x2 x3 x4) : W p l e rm_m_result s m args below meth c H locs 0 0 (MQ below (cQi (gD g) vwCl (mty g) (mw g) A X.1 X.2) args s 0 0 A) (F0 m 84 ls []) := by
  obtain ⟨hx, hb, hr, hml, hown, hts, hlocks, hK, hA, hZ, hzo⟩ := id C
  unfold m_result_b84 at hF
  refine lv_aload_n hx hb dX11_result_84 rfl (lv_at hl 0 rfl) ?_
  refine lv_iload_n hx hb dX11_result_85 rfl (lv_at hl 2 rfl) ?_
  refine lv_iload_n hx hb dX11_result_86 rfl (lv_at hl 3 rfl) ?_
  refine lv_iconst (v := (-1 : Int32)) hx hb dX11_result_87 (by decide) ?_
  refine lv_ixor hx hb dX11_result_88 ?_
  refine lv_iconst (v := (1 : Int32)) hx hb dX11_result_89 (by decide) ?_
  refine lv_iload hx hb dX11_result_90 (lv_at hl 4 rfl) ?_
  refine cx_Vi (As := [.int x2, .int (x3 ^^^ (-1 : Int32)), .int (1 : Int32), .int x4]) (rest := []) C (c_m_summed l g st x2 (x3 ^^^ (-1 : Int32)) (1 : Int32) x4) (cwV 4 hts (gd_V _ mw862 mw863 mw864 mw3 mw865) rfl rfl rfl yd_yX11_summed ⟨Nat.le_of_ble_eq_true rfl, Nat.le_of_ble_eq_true rfl⟩) (va_recv hK hI.1 (ci := 11) (q0 := 0) rfl rfl) hI rfl hl.1 rfl (Nat.le_of_ble_eq_true rfl) dX11_result_92 (fun H locs hI => ?_)
  exact k_m_result_b95 g C (m_summed st x2 (x3 ^^^ (-1 : Int32)) (1 : Int32) x4).1 x1 x4 (m_summed st x2 (x3 ^^^ (-1 : Int32)) (1 : Int32) x4).2 H locs ls hI (lv_sub hl [0, 1, 4] rfl) X hF
def m_result_b111 (st : CS) (x1 : Int32) (x4 : Int32) (y0 : Int32) : CS × Int32 := (m_result_b248 st x1 x4 y0)
set_option maxHeartbeats 4000000 in
set_option maxRecDepth 100000 in
theorem k_m_result_b111 {p : Program} {l : Launch} {e : Env} {s : State} {m : MethodId} {args : Array Value} {below : List Frame} {meth : Method} {c : Code} {A : Nat → Prop} (g : Gm) (C : cX p s m args meth c A cX11_result (some .int) 8 RX11 wq_X11_result (gD g) vwCl (mty g) (mz g)) (st : CS) (x1 : Int32) (x4 : Int32) (y0 : Int32) (H : Heap) (locs : List Loc) (ls : Array Slot) (hI : cI (gD g) vwCl (mw g) A s st H locs) (hl : lv_has ls 8 [(0, .ref (gad g 0)), (1, .int x1), (4, .int x4)]) (X : CS × Int32) (hF : X = m_result_b111 st x1 x4 y0) : W p l e rm_m_result s m args below meth c H locs 0 0 (MQ below (cQi (gD g) vwCl (mty g) (mw g) A X.1 X.2) args s 0 0 A) (F0 m 111 ls [.int y0]) := by
  obtain ⟨hx, hb, hr, hml, hown, hts, hlocks, hK, hA, hZ, hzo⟩ := id C
  unfold m_result_b111 at hF
  refine lv_istore (lv' := [(6, .int y0), (0, .ref (gad g 0)), (1, .int x1), (4, .int x4)]) hx hb dX11_result_111 hl (by decide) rfl (fun ls hl => ?_)
  refine lv_goto (tgt := 248) hx hb dX11_result_113 (by decide) ?_
  exact k_m_result_b248 g C st x1 x4 y0 H locs ls hI (lv_sub hl [1, 2, 3, 0] rfl) X hF
def m_result_b125 (st : CS) (x1 : Int32) (x4 : Int32) (y0 : Int32) : CS × Int32 := (m_result_b248 st x1 x4 y0)
set_option maxHeartbeats 4000000 in
set_option maxRecDepth 100000 in
theorem k_m_result_b125 {p : Program} {l : Launch} {e : Env} {s : State} {m : MethodId} {args : Array Value} {below : List Frame} {meth : Method} {c : Code} {A : Nat → Prop} (g : Gm) (C : cX p s m args meth c A cX11_result (some .int) 8 RX11 wq_X11_result (gD g) vwCl (mty g) (mz g)) (st : CS) (x1 : Int32) (x4 : Int32) (y0 : Int32) (H : Heap) (locs : List Loc) (ls : Array Slot) (hI : cI (gD g) vwCl (mw g) A s st H locs) (hl : lv_has ls 8 [(0, .ref (gad g 0)), (1, .int x1), (4, .int x4)]) (X : CS × Int32) (hF : X = m_result_b125 st x1 x4 y0) : W p l e rm_m_result s m args below meth c H locs 0 0 (MQ below (cQi (gD g) vwCl (mty g) (mw g) A X.1 X.2) args s 0 0 A) (F0 m 125 ls [.int y0]) := by
  obtain ⟨hx, hb, hr, hml, hown, hts, hlocks, hK, hA, hZ, hzo⟩ := id C
  unfold m_result_b125 at hF
  refine lv_istore (lv' := [(6, .int y0), (0, .ref (gad g 0)), (1, .int x1), (4, .int x4)]) hx hb dX11_result_125 hl (by decide) rfl (fun ls hl => ?_)
  refine lv_goto (tgt := 248) hx hb dX11_result_127 (by decide) ?_
  exact k_m_result_b248 g C st x1 x4 y0 H locs ls hI (lv_sub hl [1, 2, 3, 0] rfl) X hF
def m_result_b116 (st : CS) (x1 : Int32) (x2 : Int32) (x3 : Int32) (x4 : Int32) : CS × Int32 := (m_result_b125 (m_summed st x2 x3 (0 : Int32) x4).1 x1 x4 (m_summed st x2 x3 (0 : Int32) x4).2)
set_option maxHeartbeats 4000000 in
set_option maxRecDepth 100000 in
theorem k_m_result_b116 {p : Program} {l : Launch} {e : Env} {s : State} {m : MethodId} {args : Array Value} {below : List Frame} {meth : Method} {c : Code} {A : Nat → Prop} (g : Gm) (C : cX p s m args meth c A cX11_result (some .int) 8 RX11 wq_X11_result (gD g) vwCl (mty g) (mz g)) (st : CS) (x1 : Int32) (x2 : Int32) (x3 : Int32) (x4 : Int32) (H : Heap) (locs : List Loc) (ls : Array Slot) (hI : cI (gD g) vwCl (mw g) A s st H locs) (hl : lv_has ls 8 [(0, .ref (gad g 0)), (1, .int x1), (2, .int x2), (3, .int x3), (4, .int x4)]) (X : CS × Int32) (hF : X = m_result_b116 st x1 x2 x3 x4) : W p l e rm_m_result s m args below meth c H locs 0 0 (MQ below (cQi (gD g) vwCl (mty g) (mw g) A X.1 X.2) args s 0 0 A) (F0 m 116 ls []) := by
  obtain ⟨hx, hb, hr, hml, hown, hts, hlocks, hK, hA, hZ, hzo⟩ := id C
  unfold m_result_b116 at hF
  refine lv_aload_n hx hb dX11_result_116 rfl (lv_at hl 0 rfl) ?_
  refine lv_iload_n hx hb dX11_result_117 rfl (lv_at hl 2 rfl) ?_
  refine lv_iload_n hx hb dX11_result_118 rfl (lv_at hl 3 rfl) ?_
  refine lv_iconst (v := (0 : Int32)) hx hb dX11_result_119 (by decide) ?_
  refine lv_iload hx hb dX11_result_120 (lv_at hl 4 rfl) ?_
  refine cx_Vi (As := [.int x2, .int x3, .int (0 : Int32), .int x4]) (rest := []) C (c_m_summed l g st x2 x3 (0 : Int32) x4) (cwV 4 hts (gd_V _ mw862 mw863 mw864 mw3 mw865) rfl rfl rfl yd_yX11_summed ⟨Nat.le_of_ble_eq_true rfl, Nat.le_of_ble_eq_true rfl⟩) (va_recv hK hI.1 (ci := 11) (q0 := 0) rfl rfl) hI rfl hl.1 rfl (Nat.le_of_ble_eq_true rfl) dX11_result_122 (fun H locs hI => ?_)
  exact k_m_result_b125 g C (m_summed st x2 x3 (0 : Int32) x4).1 x1 x4 (m_summed st x2 x3 (0 : Int32) x4).2 H locs ls hI (lv_sub hl [0, 1, 4] rfl) X hF
def m_result_b148 (st : CS) (x1 : Int32) (x4 : Int32) (y0 : Int32) : CS × Int32 := (m_result_b248 st x1 x4 y0)
set_option maxHeartbeats 4000000 in
set_option maxRecDepth 100000 in
theorem k_m_result_b148 {p : Program} {l : Launch} {e : Env} {s : State} {m : MethodId} {args : Array Value} {below : List Frame} {meth : Method} {c : Code} {A : Nat → Prop} (g : Gm) (C : cX p s m args meth c A cX11_result (some .int) 8 RX11 wq_X11_result (gD g) vwCl (mty g) (mz g)) (st : CS) (x1 : Int32) (x4 : Int32) (y0 : Int32) (H : Heap) (locs : List Loc) (ls : Array Slot) (hI : cI (gD g) vwCl (mw g) A s st H locs) (hl : lv_has ls 8 [(0, .ref (gad g 0)), (1, .int x1), (4, .int x4)]) (X : CS × Int32) (hF : X = m_result_b148 st x1 x4 y0) : W p l e rm_m_result s m args below meth c H locs 0 0 (MQ below (cQi (gD g) vwCl (mty g) (mw g) A X.1 X.2) args s 0 0 A) (F0 m 148 ls [.int y0]) := by
  obtain ⟨hx, hb, hr, hml, hown, hts, hlocks, hK, hA, hZ, hzo⟩ := id C
  unfold m_result_b148 at hF
  refine lv_istore (lv' := [(6, .int y0), (0, .ref (gad g 0)), (1, .int x1), (4, .int x4)]) hx hb dX11_result_148 hl (by decide) rfl (fun ls hl => ?_)
  refine lv_goto (tgt := 248) hx hb dX11_result_150 (by decide) ?_
  exact k_m_result_b248 g C st x1 x4 y0 H locs ls hI (lv_sub hl [1, 2, 3, 0] rfl) X hF
def m_result_b143 (st : CS) (x1 : Int32) (x4 : Int32) (y2 : Int32) (y1 : Int32) (y0 : Int32) : CS × Int32 := (m_result_b148 (m_summed st y2 y1 y0 x4).1 x1 x4 (m_summed st y2 y1 y0 x4).2)
set_option maxHeartbeats 4000000 in
set_option maxRecDepth 100000 in
theorem k_m_result_b143 {p : Program} {l : Launch} {e : Env} {s : State} {m : MethodId} {args : Array Value} {below : List Frame} {meth : Method} {c : Code} {A : Nat → Prop} (g : Gm) (C : cX p s m args meth c A cX11_result (some .int) 8 RX11 wq_X11_result (gD g) vwCl (mty g) (mz g)) (st : CS) (x1 : Int32) (x4 : Int32) (y2 : Int32) (y1 : Int32) (y0 : Int32) (H : Heap) (locs : List Loc) (ls : Array Slot) (hI : cI (gD g) vwCl (mw g) A s st H locs) (hl : lv_has ls 8 [(0, .ref (gad g 0)), (1, .int x1), (4, .int x4)]) (X : CS × Int32) (hF : X = m_result_b143 st x1 x4 y2 y1 y0) : W p l e rm_m_result s m args below meth c H locs 0 0 (MQ below (cQi (gD g) vwCl (mty g) (mw g) A X.1 X.2) args s 0 0 A) (F0 m 143 ls [.int y0, .int y1, .int y2, .ref (gad g 0)]) := by
  obtain ⟨hx, hb, hr, hml, hown, hts, hlocks, hK, hA, hZ, hzo⟩ := id C
  unfold m_result_b143 at hF
  refine lv_iload hx hb dX11_result_143 (lv_at hl 2 rfl) ?_
  refine cx_Vi (As := [.int y2, .int y1, .int y0, .int x4]) (rest := []) C (c_m_summed l g st y2 y1 y0 x4) (cwV 4 hts (gd_V _ mw862 mw863 mw864 mw3 mw865) rfl rfl rfl yd_yX11_summed ⟨Nat.le_of_ble_eq_true rfl, Nat.le_of_ble_eq_true rfl⟩) (va_recv hK hI.1 (ci := 11) (q0 := 0) rfl rfl) hI rfl hl.1 rfl (Nat.le_of_ble_eq_true rfl) dX11_result_145 (fun H locs hI => ?_)
  exact k_m_result_b148 g C (m_summed st y2 y1 y0 x4).1 x1 x4 (m_summed st y2 y1 y0 x4).2 H locs ls hI (lv_sub hl [0, 1, 2] rfl) X hF
def m_result_b173 (st : CS) (x1 : Int32) (x4 : Int32) (y0 : Int32) : CS × Int32 := (m_result_b248 st x1 x4 y0)
set_option maxHeartbeats 4000000 in
set_option maxRecDepth 100000 in
theorem k_m_result_b173 {p : Program} {l : Launch} {e : Env} {s : State} {m : MethodId} {args : Array Value} {below : List Frame} {meth : Method} {c : Code} {A : Nat → Prop} (g : Gm) (C : cX p s m args meth c A cX11_result (some .int) 8 RX11 wq_X11_result (gD g) vwCl (mty g) (mz g)) (st : CS) (x1 : Int32) (x4 : Int32) (y0 : Int32) (H : Heap) (locs : List Loc) (ls : Array Slot) (hI : cI (gD g) vwCl (mw g) A s st H locs) (hl : lv_has ls 8 [(0, .ref (gad g 0)), (1, .int x1), (4, .int x4)]) (X : CS × Int32) (hF : X = m_result_b173 st x1 x4 y0) : W p l e rm_m_result s m args below meth c H locs 0 0 (MQ below (cQi (gD g) vwCl (mty g) (mw g) A X.1 X.2) args s 0 0 A) (F0 m 173 ls [.int y0]) := by
  obtain ⟨hx, hb, hr, hml, hown, hts, hlocks, hK, hA, hZ, hzo⟩ := id C
  unfold m_result_b173 at hF
  refine lv_istore (lv' := [(6, .int y0), (0, .ref (gad g 0)), (1, .int x1), (4, .int x4)]) hx hb dX11_result_173 hl (by decide) rfl (fun ls hl => ?_)
  refine lv_goto (tgt := 248) hx hb dX11_result_175 (by decide) ?_
  exact k_m_result_b248 g C st x1 x4 y0 H locs ls hI (lv_sub hl [1, 2, 3, 0] rfl) X hF
def m_result_b168 (st : CS) (x1 : Int32) (x4 : Int32) (y2 : Int32) (y1 : Int32) (y0 : Int32) : CS × Int32 := (m_result_b173 (m_summed st y2 y1 y0 x4).1 x1 x4 (m_summed st y2 y1 y0 x4).2)
set_option maxHeartbeats 4000000 in
set_option maxRecDepth 100000 in
theorem k_m_result_b168 {p : Program} {l : Launch} {e : Env} {s : State} {m : MethodId} {args : Array Value} {below : List Frame} {meth : Method} {c : Code} {A : Nat → Prop} (g : Gm) (C : cX p s m args meth c A cX11_result (some .int) 8 RX11 wq_X11_result (gD g) vwCl (mty g) (mz g)) (st : CS) (x1 : Int32) (x4 : Int32) (y2 : Int32) (y1 : Int32) (y0 : Int32) (H : Heap) (locs : List Loc) (ls : Array Slot) (hI : cI (gD g) vwCl (mw g) A s st H locs) (hl : lv_has ls 8 [(0, .ref (gad g 0)), (1, .int x1), (4, .int x4)]) (X : CS × Int32) (hF : X = m_result_b168 st x1 x4 y2 y1 y0) : W p l e rm_m_result s m args below meth c H locs 0 0 (MQ below (cQi (gD g) vwCl (mty g) (mw g) A X.1 X.2) args s 0 0 A) (F0 m 168 ls [.int y0, .int y1, .int y2, .ref (gad g 0)]) := by
  obtain ⟨hx, hb, hr, hml, hown, hts, hlocks, hK, hA, hZ, hzo⟩ := id C
  unfold m_result_b168 at hF
  refine lv_iload hx hb dX11_result_168 (lv_at hl 2 rfl) ?_
  refine cx_Vi (As := [.int y2, .int y1, .int y0, .int x4]) (rest := []) C (c_m_summed l g st y2 y1 y0 x4) (cwV 4 hts (gd_V _ mw862 mw863 mw864 mw3 mw865) rfl rfl rfl yd_yX11_summed ⟨Nat.le_of_ble_eq_true rfl, Nat.le_of_ble_eq_true rfl⟩) (va_recv hK hI.1 (ci := 11) (q0 := 0) rfl rfl) hI rfl hl.1 rfl (Nat.le_of_ble_eq_true rfl) dX11_result_170 (fun H locs hI => ?_)
  exact k_m_result_b173 g C (m_summed st y2 y1 y0 x4).1 x1 x4 (m_summed st y2 y1 y0 x4).2 H locs ls hI (lv_sub hl [0, 1, 2] rfl) X hF
def m_result_b198 (st : CS) (x1 : Int32) (x4 : Int32) (y0 : Int32) : CS × Int32 := (m_result_b248 st x1 x4 y0)
set_option maxHeartbeats 4000000 in
set_option maxRecDepth 100000 in
theorem k_m_result_b198 {p : Program} {l : Launch} {e : Env} {s : State} {m : MethodId} {args : Array Value} {below : List Frame} {meth : Method} {c : Code} {A : Nat → Prop} (g : Gm) (C : cX p s m args meth c A cX11_result (some .int) 8 RX11 wq_X11_result (gD g) vwCl (mty g) (mz g)) (st : CS) (x1 : Int32) (x4 : Int32) (y0 : Int32) (H : Heap) (locs : List Loc) (ls : Array Slot) (hI : cI (gD g) vwCl (mw g) A s st H locs) (hl : lv_has ls 8 [(0, .ref (gad g 0)), (1, .int x1), (4, .int x4)]) (X : CS × Int32) (hF : X = m_result_b198 st x1 x4 y0) : W p l e rm_m_result s m args below meth c H locs 0 0 (MQ below (cQi (gD g) vwCl (mty g) (mw g) A X.1 X.2) args s 0 0 A) (F0 m 198 ls [.int y0]) := by
  obtain ⟨hx, hb, hr, hml, hown, hts, hlocks, hK, hA, hZ, hzo⟩ := id C
  unfold m_result_b198 at hF
  refine lv_istore (lv' := [(6, .int y0), (0, .ref (gad g 0)), (1, .int x1), (4, .int x4)]) hx hb dX11_result_198 hl (by decide) rfl (fun ls hl => ?_)
  refine lv_goto (tgt := 248) hx hb dX11_result_200 (by decide) ?_
  exact k_m_result_b248 g C st x1 x4 y0 H locs ls hI (lv_sub hl [1, 2, 3, 0] rfl) X hF
def m_result_b193 (st : CS) (x1 : Int32) (x4 : Int32) (y2 : Int32) (y1 : Int32) (y0 : Int32) : CS × Int32 := (m_result_b198 (m_summed st y2 y1 y0 x4).1 x1 x4 (m_summed st y2 y1 y0 x4).2)
set_option maxHeartbeats 4000000 in
set_option maxRecDepth 100000 in
theorem k_m_result_b193 {p : Program} {l : Launch} {e : Env} {s : State} {m : MethodId} {args : Array Value} {below : List Frame} {meth : Method} {c : Code} {A : Nat → Prop} (g : Gm) (C : cX p s m args meth c A cX11_result (some .int) 8 RX11 wq_X11_result (gD g) vwCl (mty g) (mz g)) (st : CS) (x1 : Int32) (x4 : Int32) (y2 : Int32) (y1 : Int32) (y0 : Int32) (H : Heap) (locs : List Loc) (ls : Array Slot) (hI : cI (gD g) vwCl (mw g) A s st H locs) (hl : lv_has ls 8 [(0, .ref (gad g 0)), (1, .int x1), (4, .int x4)]) (X : CS × Int32) (hF : X = m_result_b193 st x1 x4 y2 y1 y0) : W p l e rm_m_result s m args below meth c H locs 0 0 (MQ below (cQi (gD g) vwCl (mty g) (mw g) A X.1 X.2) args s 0 0 A) (F0 m 193 ls [.int y0, .int y1, .int y2, .ref (gad g 0)]) := by
  obtain ⟨hx, hb, hr, hml, hown, hts, hlocks, hK, hA, hZ, hzo⟩ := id C
  unfold m_result_b193 at hF
  refine lv_iload hx hb dX11_result_193 (lv_at hl 2 rfl) ?_
  refine cx_Vi (As := [.int y2, .int y1, .int y0, .int x4]) (rest := []) C (c_m_summed l g st y2 y1 y0 x4) (cwV 4 hts (gd_V _ mw862 mw863 mw864 mw3 mw865) rfl rfl rfl yd_yX11_summed ⟨Nat.le_of_ble_eq_true rfl, Nat.le_of_ble_eq_true rfl⟩) (va_recv hK hI.1 (ci := 11) (q0 := 0) rfl rfl) hI rfl hl.1 rfl (Nat.le_of_ble_eq_true rfl) dX11_result_195 (fun H locs hI => ?_)
  exact k_m_result_b198 g C (m_summed st y2 y1 y0 x4).1 x1 x4 (m_summed st y2 y1 y0 x4).2 H locs ls hI (lv_sub hl [0, 1, 2] rfl) X hF
def m_result (st : CS) (x1 : Int32) (x2 : Int32) (x3 : Int32) (x4 : Int32) : CS × Int32 := (if x1 = (0 : Int32) then (m_result_b203 st x1 x2 x3 x4) else (if x1 = (1 : Int32) then (m_result_b211 st x1 x2 x3 x4) else (if x1 = (2 : Int32) then (m_result_b84 st x1 x2 x3 x4) else (if x1 = (3 : Int32) then (m_result_b111 (m_summed st x3 (x2 ^^^ (-1 : Int32)) (1 : Int32) x4).1 x1 x4 (m_summed st x3 (x2 ^^^ (-1 : Int32)) (1 : Int32) x4).2) else (if x1 = (4 : Int32) then (m_result_b116 st x1 x2 x3 x4) else (if x1 = (5 : Int32) then (if ((m_is st (29 : Int32)) = 0) then (m_result_b143 st x1 x4 x2 x3 (0 : Int32)) else (m_result_b143 st x1 x4 x2 x3 (1 : Int32))) else (if x1 = (6 : Int32) then (if ((m_is st (29 : Int32)) = 0) then (m_result_b168 st x1 x4 x2 (x3 ^^^ (-1 : Int32)) (0 : Int32)) else (m_result_b168 st x1 x4 x2 (x3 ^^^ (-1 : Int32)) (1 : Int32))) else (if x1 = (7 : Int32) then (if ((m_is st (29 : Int32)) = 0) then (m_result_b193 st x1 x4 x3 (x2 ^^^ (-1 : Int32)) (0 : Int32)) else (m_result_b193 st x1 x4 x3 (x2 ^^^ (-1 : Int32)) (1 : Int32))) else (if x1 = (8 : Int32) then (m_result_b203 st x1 x2 x3 x4) else (if x1 = (9 : Int32) then (m_result_b211 st x1 x2 x3 x4) else (if x1 = (10 : Int32) then (m_result_b84 st x1 x2 x3 x4) else (if x1 = (11 : Int32) then (m_result_b116 st x1 x2 x3 x4) else (if x1 = (12 : Int32) then (m_result_b248 st x1 x4 (x2 ||| x3)) else (if x1 = (13 : Int32) then (m_result_b248 st x1 x4 x3) else (if x1 = (14 : Int32) then (m_result_b248 st x1 x4 (x2 &&& (x3 ^^^ (-1 : Int32)))) else (m_result_b248 st x1 x4 (x3 ^^^ (-1 : Int32))))))))))))))))))
set_option maxHeartbeats 4000000 in
set_option maxRecDepth 100000 in
theorem k_m_result {p : Program} {l : Launch} {e : Env} {s : State} {m : MethodId} {args : Array Value} {below : List Frame} {meth : Method} {c : Code} {A : Nat → Prop} (g : Gm) (C : cX p s m args meth c A cX11_result (some .int) 8 RX11 wq_X11_result (gD g) vwCl (mty g) (mz g)) (st : CS) (x1 : Int32) (x2 : Int32) (x3 : Int32) (x4 : Int32) (H : Heap) (locs : List Loc) (ls : Array Slot) (hI : cI (gD g) vwCl (mw g) A s st H locs) (hl : lv_has ls 8 [(0, .ref (gad g 0)), (1, .int x1), (2, .int x2), (3, .int x3), (4, .int x4)]) (X : CS × Int32) (hF : X = m_result st x1 x2 x3 x4) : W p l e rm_m_result s m args below meth c H locs 0 0 (MQ below (cQi (gD g) vwCl (mty g) (mw g) A X.1 X.2) args s 0 0 A) (F0 m 0 ls []) := by
  obtain ⟨hx, hb, hr, hml, hown, hts, hlocks, hK, hA, hZ, hzo⟩ := id C
  unfold m_result at hF
  refine lv_aload_n hx hb dX11_result_0 rfl (lv_at hl 0 rfl) ?_
  refine lv_bipush (v := (29 : Int32)) hx hb dX11_result_1 (by decide) ?_
  refine cx_Vi (As := [.int (29 : Int32)]) (rest := []) C (c_m_is l g st (29 : Int32)) (cwV 1 hts (gd_V _ mw761 mw762 mw763 mw3 mw764) rfl rfl rfl yd_yX11_is ⟨Nat.le_of_ble_eq_true rfl, Nat.le_of_ble_eq_true rfl⟩) (va_recv hK hI.1 (ci := 11) (q0 := 0) rfl rfl) hI rfl hl.1 rfl (Nat.le_of_ble_eq_true rfl) dX11_result_3 (fun H locs hI => ?_)
  refine lv_istore (lv' := [(5, .int (m_is st (29 : Int32))), (0, .ref (gad g 0)), (1, .int x1), (2, .int x2), (3, .int x3), (4, .int x4)]) hx hb dX11_result_6 hl (by decide) rfl (fun ls hl => ?_)
  refine lv_iload_n hx hb dX11_result_8 rfl (lv_at hl 2 rfl) ?_
  by_cases c_9_0 : x1 = (0 : Int32)
  · have hF := hF.trans (if_pos c_9_0)
    refine lv_tableIn (off := 194) (tgt := 203) hx hb dX11_result_9 (by rw [c_9_0]; decide) (by rw [c_9_0]; decide) (by rw [c_9_0]; rfl) (by decide) ?_
    exact k_m_result_b203 g C st x1 x2 x3 x4 H locs ls hI (lv_sub hl [1, 2, 3, 4, 5] rfl) X hF
  · have hF := hF.trans (if_neg c_9_0)
    by_cases c_9_1 : x1 = (1 : Int32)
    · have hF := hF.trans (if_pos c_9_1)
      refine lv_tableIn (off := 202) (tgt := 211) hx hb dX11_result_9 (by rw [c_9_1]; decide) (by rw [c_9_1]; decide) (by rw [c_9_1]; rfl) (by decide) ?_
      exact k_m_result_b211 g C st x1 x2 x3 x4 H locs ls hI (lv_sub hl [1, 2, 3, 4, 5] rfl) X hF
    · have hF := hF.trans (if_neg c_9_1)
      by_cases c_9_2 : x1 = (2 : Int32)
      · have hF := hF.trans (if_pos c_9_2)
        refine lv_tableIn (off := 75) (tgt := 84) hx hb dX11_result_9 (by rw [c_9_2]; decide) (by rw [c_9_2]; decide) (by rw [c_9_2]; rfl) (by decide) ?_
        exact k_m_result_b84 g C st x1 x2 x3 x4 H locs ls hI (lv_sub hl [1, 2, 3, 4, 5] rfl) X hF
      · have hF := hF.trans (if_neg c_9_2)
        by_cases c_9_3 : x1 = (3 : Int32)
        · have hF := hF.trans (if_pos c_9_3)
          refine lv_tableIn (off := 91) (tgt := 100) hx hb dX11_result_9 (by rw [c_9_3]; decide) (by rw [c_9_3]; decide) (by rw [c_9_3]; rfl) (by decide) ?_
          refine lv_aload_n hx hb dX11_result_100 rfl (lv_at hl 1 rfl) ?_
          refine lv_iload_n hx hb dX11_result_101 rfl (lv_at hl 4 rfl) ?_
          refine lv_iload_n hx hb dX11_result_102 rfl (lv_at hl 3 rfl) ?_
          refine lv_iconst (v := (-1 : Int32)) hx hb dX11_result_103 (by decide) ?_
          refine lv_ixor hx hb dX11_result_104 ?_
          refine lv_iconst (v := (1 : Int32)) hx hb dX11_result_105 (by decide) ?_
          refine lv_iload hx hb dX11_result_106 (lv_at hl 5 rfl) ?_
          refine cx_Vi (As := [.int x3, .int (x2 ^^^ (-1 : Int32)), .int (1 : Int32), .int x4]) (rest := []) C (c_m_summed l g st x3 (x2 ^^^ (-1 : Int32)) (1 : Int32) x4) (cwV 4 hts (gd_V _ mw862 mw863 mw864 mw3 mw865) rfl rfl rfl yd_yX11_summed ⟨Nat.le_of_ble_eq_true rfl, Nat.le_of_ble_eq_true rfl⟩) (va_recv hK hI.1 (ci := 11) (q0 := 0) rfl rfl) hI rfl hl.1 rfl (Nat.le_of_ble_eq_true rfl) dX11_result_108 (fun H locs hI => ?_)
          exact k_m_result_b111 g C (m_summed st x3 (x2 ^^^ (-1 : Int32)) (1 : Int32) x4).1 x1 x4 (m_summed st x3 (x2 ^^^ (-1 : Int32)) (1 : Int32) x4).2 H locs ls hI (lv_sub hl [1, 2, 5] rfl) X hF
        · have hF := hF.trans (if_neg c_9_3)
          by_cases c_9_4 : x1 = (4 : Int32)
          · have hF := hF.trans (if_pos c_9_4)
            refine lv_tableIn (off := 107) (tgt := 116) hx hb dX11_result_9 (by rw [c_9_4]; decide) (by rw [c_9_4]; decide) (by rw [c_9_4]; rfl) (by decide) ?_
            exact k_m_result_b116 g C st x1 x2 x3 x4 H locs ls hI (lv_sub hl [1, 2, 3, 4, 5] rfl) X hF
          · have hF := hF.trans (if_neg c_9_4)
            by_cases c_9_5 : x1 = (5 : Int32)
            · have hF := hF.trans (if_pos c_9_5)
              refine lv_tableIn (off := 121) (tgt := 130) hx hb dX11_result_9 (by rw [c_9_5]; decide) (by rw [c_9_5]; decide) (by rw [c_9_5]; rfl) (by decide) ?_
              refine lv_aload_n hx hb dX11_result_130 rfl (lv_at hl 1 rfl) ?_
              refine lv_iload_n hx hb dX11_result_131 rfl (lv_at hl 3 rfl) ?_
              refine lv_iload_n hx hb dX11_result_132 rfl (lv_at hl 4 rfl) ?_
              refine lv_iload hx hb dX11_result_133 (lv_at hl 0 rfl) ?_
              refine lv_if_eq (tgt := 142) hx hb dX11_result_135 (by decide) (fun c_135 => ?_) (fun c_135 => ?_)
              · have hF := hF.trans (if_pos c_135)
                refine lv_iconst (v := (0 : Int32)) hx hb dX11_result_142 (by decide) ?_
                exact k_m_result_b143 g C st x1 x4 x2 x3 (0 : Int32) H locs ls hI (lv_sub hl [1, 2, 5] rfl) X hF
              · have hF := hF.trans (if_neg c_135)
                refine lv_iconst (v := (1 : Int32)) hx hb dX11_result_138 (by decide) ?_
                refine lv_goto (tgt := 143) hx hb dX11_result_139 (by decide) ?_
                exact k_m_result_b143 g C st x1 x4 x2 x3 (1 : Int32) H locs ls hI (lv_sub hl [1, 2, 5] rfl) X hF
            · have hF := hF.trans (if_neg c_9_5)
              by_cases c_9_6 : x1 = (6 : Int32)
              · have hF := hF.trans (if_pos c_9_6)
                refine lv_tableIn (off := 144) (tgt := 153) hx hb dX11_result_9 (by rw [c_9_6]; decide) (by rw [c_9_6]; decide) (by rw [c_9_6]; rfl) (by decide) ?_
                refine lv_aload_n hx hb dX11_result_153 rfl (lv_at hl 1 rfl) ?_
                refine lv_iload_n hx hb dX11_result_154 rfl (lv_at hl 3 rfl) ?_
                refine lv_iload_n hx hb dX11_result_155 rfl (lv_at hl 4 rfl) ?_
                refine lv_iconst (v := (-1 : Int32)) hx hb dX11_result_156 (by decide) ?_
                refine lv_ixor hx hb dX11_result_157 ?_
                refine lv_iload hx hb dX11_result_158 (lv_at hl 0 rfl) ?_
                refine lv_if_eq (tgt := 167) hx hb dX11_result_160 (by decide) (fun c_160 => ?_) (fun c_160 => ?_)
                · have hF := hF.trans (if_pos c_160)
                  refine lv_iconst (v := (0 : Int32)) hx hb dX11_result_167 (by decide) ?_
                  exact k_m_result_b168 g C st x1 x4 x2 (x3 ^^^ (-1 : Int32)) (0 : Int32) H locs ls hI (lv_sub hl [1, 2, 5] rfl) X hF
                · have hF := hF.trans (if_neg c_160)
                  refine lv_iconst (v := (1 : Int32)) hx hb dX11_result_163 (by decide) ?_
                  refine lv_goto (tgt := 168) hx hb dX11_result_164 (by decide) ?_
                  exact k_m_result_b168 g C st x1 x4 x2 (x3 ^^^ (-1 : Int32)) (1 : Int32) H locs ls hI (lv_sub hl [1, 2, 5] rfl) X hF
              · have hF := hF.trans (if_neg c_9_6)
                by_cases c_9_7 : x1 = (7 : Int32)
                · have hF := hF.trans (if_pos c_9_7)
                  refine lv_tableIn (off := 169) (tgt := 178) hx hb dX11_result_9 (by rw [c_9_7]; decide) (by rw [c_9_7]; decide) (by rw [c_9_7]; rfl) (by decide) ?_
                  refine lv_aload_n hx hb dX11_result_178 rfl (lv_at hl 1 rfl) ?_
                  refine lv_iload_n hx hb dX11_result_179 rfl (lv_at hl 4 rfl) ?_
                  refine lv_iload_n hx hb dX11_result_180 rfl (lv_at hl 3 rfl) ?_
                  refine lv_iconst (v := (-1 : Int32)) hx hb dX11_result_181 (by decide) ?_
                  refine lv_ixor hx hb dX11_result_182 ?_
                  refine lv_iload hx hb dX11_result_183 (lv_at hl 0 rfl) ?_
                  refine lv_if_eq (tgt := 192) hx hb dX11_result_185 (by decide) (fun c_185 => ?_) (fun c_185 => ?_)
                  · have hF := hF.trans (if_pos c_185)
                    refine lv_iconst (v := (0 : Int32)) hx hb dX11_result_192 (by decide) ?_
                    exact k_m_result_b193 g C st x1 x4 x3 (x2 ^^^ (-1 : Int32)) (0 : Int32) H locs ls hI (lv_sub hl [1, 2, 5] rfl) X hF
                  · have hF := hF.trans (if_neg c_185)
                    refine lv_iconst (v := (1 : Int32)) hx hb dX11_result_188 (by decide) ?_
                    refine lv_goto (tgt := 193) hx hb dX11_result_189 (by decide) ?_
                    exact k_m_result_b193 g C st x1 x4 x3 (x2 ^^^ (-1 : Int32)) (1 : Int32) H locs ls hI (lv_sub hl [1, 2, 5] rfl) X hF
                · have hF := hF.trans (if_neg c_9_7)
                  by_cases c_9_8 : x1 = (8 : Int32)
                  · have hF := hF.trans (if_pos c_9_8)
                    refine lv_tableIn (off := 194) (tgt := 203) hx hb dX11_result_9 (by rw [c_9_8]; decide) (by rw [c_9_8]; decide) (by rw [c_9_8]; rfl) (by decide) ?_
                    exact k_m_result_b203 g C st x1 x2 x3 x4 H locs ls hI (lv_sub hl [1, 2, 3, 4, 5] rfl) X hF
                  · have hF := hF.trans (if_neg c_9_8)
                    by_cases c_9_9 : x1 = (9 : Int32)
                    · have hF := hF.trans (if_pos c_9_9)
                      refine lv_tableIn (off := 202) (tgt := 211) hx hb dX11_result_9 (by rw [c_9_9]; decide) (by rw [c_9_9]; decide) (by rw [c_9_9]; rfl) (by decide) ?_
                      exact k_m_result_b211 g C st x1 x2 x3 x4 H locs ls hI (lv_sub hl [1, 2, 3, 4, 5] rfl) X hF
                    · have hF := hF.trans (if_neg c_9_9)
                      by_cases c_9_10 : x1 = (10 : Int32)
                      · have hF := hF.trans (if_pos c_9_10)
                        refine lv_tableIn (off := 75) (tgt := 84) hx hb dX11_result_9 (by rw [c_9_10]; decide) (by rw [c_9_10]; decide) (by rw [c_9_10]; rfl) (by decide) ?_
                        exact k_m_result_b84 g C st x1 x2 x3 x4 H locs ls hI (lv_sub hl [1, 2, 3, 4, 5] rfl) X hF
                      · have hF := hF.trans (if_neg c_9_10)
                        by_cases c_9_11 : x1 = (11 : Int32)
                        · have hF := hF.trans (if_pos c_9_11)
                          refine lv_tableIn (off := 107) (tgt := 116) hx hb dX11_result_9 (by rw [c_9_11]; decide) (by rw [c_9_11]; decide) (by rw [c_9_11]; rfl) (by decide) ?_
                          exact k_m_result_b116 g C st x1 x2 x3 x4 H locs ls hI (lv_sub hl [1, 2, 3, 4, 5] rfl) X hF
                        · have hF := hF.trans (if_neg c_9_11)
                          by_cases c_9_12 : x1 = (12 : Int32)
                          · have hF := hF.trans (if_pos c_9_12)
                            refine lv_tableIn (off := 210) (tgt := 219) hx hb dX11_result_9 (by rw [c_9_12]; decide) (by rw [c_9_12]; decide) (by rw [c_9_12]; rfl) (by decide) ?_
                            refine lv_iload_n hx hb dX11_result_219 rfl (lv_at hl 3 rfl) ?_
                            refine lv_iload_n hx hb dX11_result_220 rfl (lv_at hl 4 rfl) ?_
                            refine lv_ior hx hb dX11_result_221 ?_
                            refine lv_istore (lv' := [(6, .int (x2 ||| x3)), (5, .int (m_is st (29 : Int32))), (0, .ref (gad g 0)), (1, .int x1), (2, .int x2), (3, .int x3), (4, .int x4)]) hx hb dX11_result_222 hl (by decide) rfl (fun ls hl => ?_)
                            refine lv_goto (tgt := 248) hx hb dX11_result_224 (by decide) ?_
                            exact k_m_result_b248 g C st x1 x4 (x2 ||| x3) H locs ls hI (lv_sub hl [2, 3, 6, 0] rfl) X hF
                          · have hF := hF.trans (if_neg c_9_12)
                            by_cases c_9_13 : x1 = (13 : Int32)
                            · have hF := hF.trans (if_pos c_9_13)
                              refine lv_tableIn (off := 218) (tgt := 227) hx hb dX11_result_9 (by rw [c_9_13]; decide) (by rw [c_9_13]; decide) (by rw [c_9_13]; rfl) (by decide) ?_
                              refine lv_iload_n hx hb dX11_result_227 rfl (lv_at hl 4 rfl) ?_
                              refine lv_istore (lv' := [(6, .int x3), (5, .int (m_is st (29 : Int32))), (0, .ref (gad g 0)), (1, .int x1), (2, .int x2), (3, .int x3), (4, .int x4)]) hx hb dX11_result_228 hl (by decide) rfl (fun ls hl => ?_)
                              refine lv_goto (tgt := 248) hx hb dX11_result_230 (by decide) ?_
                              exact k_m_result_b248 g C st x1 x4 x3 H locs ls hI (lv_sub hl [2, 3, 6, 0] rfl) X hF
                            · have hF := hF.trans (if_neg c_9_13)
                              by_cases c_9_14 : x1 = (14 : Int32)
                              · have hF := hF.trans (if_pos c_9_14)
                                refine lv_tableIn (off := 224) (tgt := 233) hx hb dX11_result_9 (by rw [c_9_14]; decide) (by rw [c_9_14]; decide) (by rw [c_9_14]; rfl) (by decide) ?_
                                refine lv_iload_n hx hb dX11_result_233 rfl (lv_at hl 3 rfl) ?_
                                refine lv_iload_n hx hb dX11_result_234 rfl (lv_at hl 4 rfl) ?_
                                refine lv_iconst (v := (-1 : Int32)) hx hb dX11_result_235 (by decide) ?_
                                refine lv_ixor hx hb dX11_result_236 ?_
                                refine lv_iand hx hb dX11_result_237 ?_
                                refine lv_istore (lv' := [(6, .int (x2 &&& (x3 ^^^ (-1 : Int32)))), (5, .int (m_is st (29 : Int32))), (0, .ref (gad g 0)), (1, .int x1), (2, .int x2), (3, .int x3), (4, .int x4)]) hx hb dX11_result_238 hl (by decide) rfl (fun ls hl => ?_)
                                refine lv_goto (tgt := 248) hx hb dX11_result_240 (by decide) ?_
                                exact k_m_result_b248 g C st x1 x4 (x2 &&& (x3 ^^^ (-1 : Int32))) H locs ls hI (lv_sub hl [2, 3, 6, 0] rfl) X hF
                              · have hF := hF.trans (if_neg c_9_14)
                                refine lv_tableOut (tgt := 243) hx hb dX11_result_9 (by have h0 := lv_neT (a := 0) c_9_0 (by decide); have h1 := lv_neT (a := 1) c_9_1 (by decide); have h2 := lv_neT (a := 2) c_9_2 (by decide); have h3 := lv_neT (a := 3) c_9_3 (by decide); have h4 := lv_neT (a := 4) c_9_4 (by decide); have h5 := lv_neT (a := 5) c_9_5 (by decide); have h6 := lv_neT (a := 6) c_9_6 (by decide); have h7 := lv_neT (a := 7) c_9_7 (by decide); have h8 := lv_neT (a := 8) c_9_8 (by decide); have h9 := lv_neT (a := 9) c_9_9 (by decide); have h10 := lv_neT (a := 10) c_9_10 (by decide); have h11 := lv_neT (a := 11) c_9_11 (by decide); have h12 := lv_neT (a := 12) c_9_12 (by decide); have h13 := lv_neT (a := 13) c_9_13 (by decide); have h14 := lv_neT (a := 14) c_9_14 (by decide); omega) (by decide) ?_
                                refine lv_iload_n hx hb dX11_result_243 rfl (lv_at hl 4 rfl) ?_
                                refine lv_iconst (v := (-1 : Int32)) hx hb dX11_result_244 (by decide) ?_
                                refine lv_ixor hx hb dX11_result_245 ?_
                                refine lv_istore (lv' := [(6, .int (x3 ^^^ (-1 : Int32))), (5, .int (m_is st (29 : Int32))), (0, .ref (gad g 0)), (1, .int x1), (2, .int x2), (3, .int x3), (4, .int x4)]) hx hb dX11_result_246 hl (by decide) rfl (fun ls hl => ?_)
                                exact k_m_result_b248 g C st x1 x4 (x3 ^^^ (-1 : Int32)) H locs ls hI (lv_sub hl [2, 3, 6, 0] rfl) X hF
set_option maxHeartbeats 4000000 in
set_option maxRecDepth 100000 in
theorem c_m_result (l : Launch) (g : Gm) (st : CS) (x1 : Int32) (x2 : Int32) (x3 : Int32) (x4 : Int32) : Mi l yX11_result wq_X11_result rm_m_result (gD g) vwCl (mty g) (mw g) (mz g) [.ref (gad g 0), .int x1, .int x2, .int x3, .int x4] st (m_result st x1 x2 x3 x4).1 (m_result st x1 x2 x3 x4).2 := by
  intro sz
  refine Met.ofW (cc := cX11_result) (maxL := 8) (ret := (some .int)) (by decide) rfl ?_
  intro p e s m args below meth c s₁ B hml hv
  obtain ⟨rfl, hsz, hP, hK, hD0, hZ⟩ := hv
  subst hsz
  have hl := lv_entry ([.ref (gad g 0), .int x1, .int x2, .int x3, .int x4]) (n := 8) (Nat.le_of_ble_eq_true rfl)
  rw [lg_entry_eq]
  generalize (lg_sl ([.ref (gad g 0), .int x1, .int x2, .int x3, .int x4]) ++ List.replicate (8 - (lg_sl ([.ref (gad g 0), .int x1, .int x2, .int x3, .int x4])).length) Slot.unset).toArray = ls at hl ⊢
  exact k_m_result g ⟨B.exec, B.bytes, B.returns, hml, findClass_of_methodNamed B.named, atoms_spec (ws := wq_X11_result) B.pre, B.notSynchronized, hK, fun q h => Or.inr h, hZ, mz_ok g⟩ st x1 x2 x3 x4 _ _ ls ⟨hP, hD0.self, va_S.rf⟩ hl _ rfl
