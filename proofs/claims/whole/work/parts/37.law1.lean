set_option maxRecDepth 20000 in
theorem tA0 : GoodIn lw_tbl wA0 := goodIn_p _ [108, 111] rfl (by decide +kernel)
set_option maxRecDepth 20000 in
theorem tA1 : GoodIn lw_tbl wA1 := goodIn_p _ [116, 127, 145, 178, 204, 246] rfl (by decide +kernel)
set_option maxRecDepth 20000 in
theorem tA2 : GoodIn lw_tbl wA2 := goodIn_p _ [252, 288, 343, 365, 403] rfl (by decide +kernel)
set_option maxRecDepth 20000 in
theorem tA3 : GoodIn lw_tbl wA3 := goodIn_p _ [407, 410, 415, 420, 424, 428] rfl (by decide +kernel)
set_option maxRecDepth 20000 in
theorem tA4 : GoodIn lw_tbl wA4 := goodIn_p _ [432, 436, 440, 1123] rfl (by decide +kernel)
set_option maxRecDepth 20000 in
theorem tA5 : GoodIn lw_tbl wA5 := goodIn_p _ [1128, 485, 489, 1289] rfl (by decide +kernel)
set_option maxRecDepth 20000 in
theorem tA6 : GoodIn lw_tbl wA6 := goodIn_p _ [1292, 637, 1296, 1300, 1284, 493, 496, 500, 1304, 1307, 710, 715] rfl (by decide +kernel)
set_option maxRecDepth 20000 in
theorem tA7 : GoodIn lw_tbl wA7 := goodIn_p _ [1311, 504, 508, 1315, 723, 743, 747, 751] rfl (by decide +kernel)
set_option maxRecDepth 20000 in
theorem tA8 : GoodIn lw_tbl wA8 := goodIn_p _ [609, 758, 605, 764, 574, 579, 583, 769, 772, 776] rfl (by decide +kernel)
set_option maxRecDepth 20000 in
theorem tA9 : GoodIn lw_tbl wA9 := goodIn_p _ [780, 784, 789, 793, 801, 805, 809] rfl (by decide +kernel)
set_option maxRecDepth 20000 in
theorem tA10 : GoodIn lw_tbl wA10 := goodIn_p _ [814, 818, 823, 828, 525, 528, 834, 839, 842, 846] rfl (by decide +kernel)
set_option maxRecDepth 20000 in
theorem tA11 : GoodIn lw_tbl wA11 := goodIn_p _ [850, 854, 858, 862, 865, 869, 873, 877, 882] rfl (by decide +kernel)
set_option maxRecDepth 20000 in
theorem tA12 : GoodIn lw_tbl wA12 := goodIn_p _ [886, 890, 894, 900, 904, 911, 919, 926, 923] rfl (by decide +kernel)
set_option maxRecDepth 20000 in
theorem tA13 : GoodIn lw_tbl wA13 := goodIn_p _ [930, 936, 940, 551, 554, 559, 562] rfl (by decide +kernel)
set_option maxRecDepth 20000 in
theorem tA14 : GoodIn lw_tbl wA14 := goodIn_p _ [566, 947, 951, 955, 959, 964, 968, 973, 978] rfl (by decide +kernel)
set_option maxRecDepth 20000 in
theorem tA15 : GoodIn lw_tbl wA15 := goodIn_p _ [983, 987, 991, 995, 999, 1004, 1008, 1012] rfl (by decide +kernel)
set_option maxRecDepth 20000 in
theorem tA16 : GoodIn lw_tbl wA16 := goodIn_p _ [1017, 1021, 1028, 1032, 1037, 1041, 1045, 1050] rfl (by decide +kernel)
set_option maxRecDepth 20000 in
theorem tA17 : GoodIn lw_tbl wA17 := goodIn_p _ [1054, 1058, 1062, 1067, 1071, 1075, 1083] rfl (by decide +kernel)
set_option maxRecDepth 20000 in
theorem tA18 : GoodIn lw_tbl wA18 := goodIn_p _ [1087, 1092, 1096, 1100, 1319, 1323, 1327, 1332] rfl (by decide +kernel)
set_option maxRecDepth 20000 in
theorem tA19 : GoodIn lw_tbl wA19 := goodIn_p _ [1336, 1340, 1344, 1349, 1353, 1357, 1360, 1364, 1368, 1372, 1376] rfl (by decide +kernel)
set_option maxRecDepth 20000 in
theorem tA20 : GoodIn lw_tbl wA20 := goodIn_p _ [1380, 1385, 1389, 1394, 1398, 1402, 1406, 1410, 1414] rfl (by decide +kernel)
set_option maxRecDepth 20000 in
theorem tA21 : GoodIn lw_tbl wA21 := goodIn_p _ [1418, 1421, 1425, 1428, 1432, 1437, 1441, 1446, 1451] rfl (by decide +kernel)
set_option maxRecDepth 20000 in
theorem tA22 : GoodIn lw_tbl wA22 := goodIn_p _ [1455, 1461, 1468, 1472, 1476, 1480, 1488, 1492] rfl (by decide +kernel)
set_option maxRecDepth 20000 in
theorem tA23 : GoodIn lw_tbl wA23 := goodIn_p _ [1496, 1502, 1508, 1512, 1108, 1516, 512, 1520] rfl (by decide +kernel)
set_option maxRecDepth 20000 in
theorem tA24 : GoodIn lw_tbl wA24 := goodIn_p _ [1116, 521, 1525, 1528, 518, 1532, 534, 538, 542, 1536, 546, 1540] rfl (by decide +kernel)
set_option maxRecDepth 20000 in
theorem tA25 : GoodIn lw_tbl wA25 := goodIn_p _ [570, 1544, 588, 592, 1549, 597] rfl (by decide +kernel)
set_option maxRecDepth 20000 in
theorem tA26 : GoodIn lw_tbl wA26 := goodIn_p _ [601, 1554, 613, 617, 1558, 621, 625, 629, 1562] rfl (by decide +kernel)
set_option maxRecDepth 20000 in
theorem tCl : GoodIn lw_tbl wCl := goodIn_p _ [] rfl (by decide +kernel)
set_option maxRecDepth 20000 in
theorem tLw : GoodIn lw_tbl wLw := goodIn_p _ [] rfl (by decide +kernel)
set_option maxRecDepth 20000 in
theorem tX0 : ∀ w ∈ wX0, w ∈ lw_tbl := by decide +kernel
set_option maxRecDepth 20000 in
theorem tX1 : ∀ w ∈ wX1, w ∈ lw_tbl := by decide +kernel
theorem tAll : GoodIn lw_tbl wAll := by
  intro w h
  unfold wAll at h
  rcases List.mem_append.mp h with h | h
  · exact tA0 w h
  rcases List.mem_append.mp h with h | h
  · exact tA1 w h
  rcases List.mem_append.mp h with h | h
  · exact tA2 w h
  rcases List.mem_append.mp h with h | h
  · exact tA3 w h
  rcases List.mem_append.mp h with h | h
  · exact tA4 w h
  rcases List.mem_append.mp h with h | h
  · exact tA5 w h
  rcases List.mem_append.mp h with h | h
  · exact tA6 w h
  rcases List.mem_append.mp h with h | h
  · exact tA7 w h
  rcases List.mem_append.mp h with h | h
  · exact tA8 w h
  rcases List.mem_append.mp h with h | h
  · exact tA9 w h
  rcases List.mem_append.mp h with h | h
  · exact tA10 w h
  rcases List.mem_append.mp h with h | h
  · exact tA11 w h
  rcases List.mem_append.mp h with h | h
  · exact tA12 w h
  rcases List.mem_append.mp h with h | h
  · exact tA13 w h
  rcases List.mem_append.mp h with h | h
  · exact tA14 w h
  rcases List.mem_append.mp h with h | h
  · exact tA15 w h
  rcases List.mem_append.mp h with h | h
  · exact tA16 w h
  rcases List.mem_append.mp h with h | h
  · exact tA17 w h
  rcases List.mem_append.mp h with h | h
  · exact tA18 w h
  rcases List.mem_append.mp h with h | h
  · exact tA19 w h
  rcases List.mem_append.mp h with h | h
  · exact tA20 w h
  rcases List.mem_append.mp h with h | h
  · exact tA21 w h
  rcases List.mem_append.mp h with h | h
  · exact tA22 w h
  rcases List.mem_append.mp h with h | h
  · exact tA23 w h
  rcases List.mem_append.mp h with h | h
  · exact tA24 w h
  rcases List.mem_append.mp h with h | h
  · exact tA25 w h
  rcases List.mem_append.mp h with h | h
  · exact tA26 w h
  exact tCl w h
theorem inT : ∀ w ∈ wAL, w ∈ lw_tbl := by
  intro w h
  rcases List.mem_append.mp h with h | h
  · exact (tLw w h).1
  · rcases List.mem_append.mp h with h | h
    · exact (tAll w h).1
    · rcases List.mem_append.mp h with h | h
      · exact tX0 w h
      · exact tX1 w h
theorem gT {B : List Cond} (h : ∀ w ∈ B, w ∈ wAL) : GoodIn lw_tbl B := fun w hw => ⟨inT w (h w hw), wAL_ok w (h w hw)⟩
theorem gT_V {c2 : Cond} {own C : String} {idx : Nat} {y : MethodName} {B : List Cond} (hB : ∀ w ∈ B, w ∈ wAL) (h1 : .methodLink own idx y ∈ wAL) (h2 : .instanceMethod y ∈ wAL) (h3 : .selects C y y ∈ wAL) (h4 : .initialized C ∈ wAL) (hc : c2 ∈ wAL) : GoodIn lw_tbl (wsV own idx C y (c2 :: B)) := gT (fun w h => by
  rcases List.mem_append.mp h with h | h
  · simp only [List.mem_cons, List.not_mem_nil, or_false] at h
    rcases h with rfl | rfl | rfl | rfl
    · exact h1
    · exact h2
    · exact h3
    · exact h4
  · rcases List.mem_cons.mp h with rfl | h
    · exact hc
    · exact hB w h)
theorem gT_S {c2 : Cond} {own : String} {idx : Nat} {y : MethodName} {B : List Cond} (hB : ∀ w ∈ B, w ∈ wAL) (h1 : .methodLink own idx y ∈ wAL) (h2 : .static y ∈ wAL) (h4 : .initialized y.cls ∈ wAL) (hc : c2 ∈ wAL) : GoodIn lw_tbl (va_wsS own idx y (c2 :: B)) := gT (fun w h => by
  rcases List.mem_append.mp h with h | h
  · simp only [List.mem_cons, List.not_mem_nil, or_false] at h
    rcases h with rfl | rfl | rfl
    · exact h1
    · exact h2
    · exact h4
  · rcases List.mem_cons.mp h with rfl | h
    · exact hc
    · exact hB w h)
theorem hBlind {E : String} {is : Nat} {text : String} {g : Gm} {qo : Nat} {cJ : ClassId} {st : CS} {ov : Nat → Int64} (av : List Value) (sz : Nat) : FrameBlind (va_Pc av (hP0 E is text g qo cJ st ov sz)) := by
  intro a U g' mk q
  obtain ⟨q0, q1, q2, q3, q4, q5, q6, q7, q8⟩ := q
  exact ⟨q0, q1, q2, q3, va_K.moved (u := U) (U := U.calling g' mk a) (Vm.Alike.refl U.vm) q4, va_K.moved (u := U) (U := U.calling g' mk a) (Vm.Alike.refl U.vm) q5, q6, (cz_ok g).1 _ U (U.calling g' mk a) _ (Vm.Alike.refl U.vm) q7, q8.same (U := U.calling g' mk a) rfl (Vm.Alike.refl U.vm)⟩
theorem hPre {E : String} {is : Nat} {text : String} {g : Gm} {qo : Nat} {cJ : ClassId} {st : CS} {ov : Nat → Int64} {A : Nat → Prop} {s : State} {H : Heap} {locs : List Loc} (hP : va_P (gD g) vwCl (cw g st) H) (hPo : va_P (gD g) vwCl (oW qo cJ ov) H) (hK : va_K (gD g) vwCl (cty g) s) (hKo : va_K (gD g) vwCl [(cJ, .long)] s) (hD : va_D A (cw g st ++ oW qo cJ ov)) (hA : ∀ q : Nat, s.heap.size ≤ q → A q) (hZ : cz g A s s.heap) (hT : tP E is text A s s.heap) (hS : va_S A s.heap H locs) :
    (∀ q, va_A (cw g st ++ oW qo cJ ov) H.size q → A q) ∧ ∀ U : State, U.heap = H → s.WarmedH U.vm → hP0 E is text g qo cJ st ov H.size U := by
  have hF : ∀ q, va_A (cw g st ++ oW qo cJ ov) H.size q → A q := by
    rintro q (⟨k, e, hk⟩ | h)
    · exact hD.2 k _ hk
    · exact hA q (Nat.le_trans hS.1 h)
  refine ⟨hF, fun U hU hW => ⟨by rw [hU], by rw [hU]; exact hP, by rw [hU]; exact hPo, va_K.moved hW.alike hK, va_K.moved hW.alike hKo, hD.weaken (fun _ _ _ _ => trivial), ?_, ?_⟩⟩
  · rw [hU]
    exact (cz_ok g).2.2 A _ _ _ ((cz_ok g).2.1 A U s.heap H ((cz_ok g).1 A s U s.heap hW.alike hZ) hS.2.1) hF
  · rw [hU]
    exact hT.warm hW hS.2.1 hF
theorem lgc (x : Int64) : lg_cmp x x = 0 := by simp [lg_cmp]

/-! THE LAW: what the pure side owes, the loop, the beginning -/
def Sim_reset (Rel : Nat → CS → CS → Prop) : Prop := ∀ (k : Nat) (st mt : CS), k < 64 → Rel k st mt → o_m_reset mt ∧ Rel (k + 1) (cPageBoard_reset st) (m_reset mt)
def Sim_poke (Rel : Nat → CS → CS → Prop) : Prop := ∀ (k : Nat) (st mt : CS) (a b c : Int32), k < 64 → Rel k st mt → o_m_poke mt a b c ∧ (cPageBoard_poke st a b c).2 = (m_poke mt a b c).2 ∧ Rel (k + 1) (cPageBoard_poke st a b c).1 (m_poke mt a b c).1
def Sim_peek (Rel : Nat → CS → CS → Prop) : Prop := ∀ (k : Nat) (st mt : CS) (a : Int32), k < 64 → Rel k st mt → o_m_peek mt a ∧ ((cPageBoard_peek st a = none ∧ m_thrown (m_peek mt a).1 = 1 ∧ Rel (k + 1) st (m_peek mt a).1) ∨ (∃ Z : CS × Int32, cPageBoard_peek st a = some Z ∧ m_thrown (m_peek mt a).1 = 0 ∧ Z.2 = (m_peek mt a).2 ∧ Rel (k + 1) Z.1 (m_peek mt a).1))
def Sim_store (Rel : Nat → CS → CS → Prop) : Prop := ∀ (k : Nat) (st mt : CS) (a b c : Int32), k < 64 → Rel k st mt → o_m_store mt a b c ∧ (cPageBoard_store st a b c).2 = (m_store mt a b c).2 ∧ Rel (k + 1) (cPageBoard_store st a b c).1 (m_store mt a b c).1
def Sim_stored (Rel : Nat → CS → CS → Prop) : Prop := ∀ (k : Nat) (st mt : CS) (a b : Int32), k < 64 → Rel k st mt → o_m_stored mt a b ∧ ((cPageBoard_stored st a b = none ∧ m_thrown (m_stored mt a b).1 = 1 ∧ Rel (k + 1) st (m_stored mt a b).1) ∨ (∃ Z : CS × Int32, cPageBoard_stored st a b = some Z ∧ m_thrown (m_stored mt a b).1 = 0 ∧ Z.2 = (m_stored mt a b).2 ∧ Rel (k + 1) Z.1 (m_stored mt a b).1))
def Sim_key (Rel : Nat → CS → CS → Prop) : Prop := ∀ (k : Nat) (st mt : CS) (a : Int32), k < 64 → Rel k st mt → (cPageBoard_key st a).2 = (m_key mt a).2 ∧ Rel (k + 1) (cPageBoard_key st a).1 (m_key mt a).1
def Sim_step (Rel : Nat → CS → CS → Prop) : Prop := ∀ (k : Nat) (st mt : CS) (a : Int32), k < 64 → Rel k st mt → o_m_step mt a ∧ ((cPageBoard_step st a = none ∧ m_thrown (m_step mt a).1 = 1 ∧ Rel (k + 1) st (m_step mt a).1) ∨ (∃ Z : CS × Int32, cPageBoard_step st a = some Z ∧ m_thrown (m_step mt a).1 = 0 ∧ Z.2 = (m_step mt a).2 ∧ Rel (k + 1) Z.1 (m_step mt a).1))
def Sim_run (Rel : Nat → CS → CS → Prop) : Prop := ∀ (k : Nat) (st mt : CS) (a : Int32), k < 64 → Rel k st mt → o_m_run mt a ∧ ((cPageBoard_run st a = none ∧ m_thrown (m_run mt a).1 = 1 ∧ Rel (k + 1) st (m_run mt a).1) ∨ (∃ Z : CS × Int32, cPageBoard_run st a = some Z ∧ m_thrown (m_run mt a).1 = 0 ∧ Z.2 = (m_run mt a).2 ∧ Rel (k + 1) Z.1 (m_run mt a).1))
def Sim_stopAt (Rel : Nat → CS → CS → Prop) : Prop := ∀ (k : Nat) (st mt : CS) (a : Int32), k < 64 → Rel k st mt → (cPageBoard_stopAt st a).2 = (m_stopAt mt a).2 ∧ Rel (k + 1) (cPageBoard_stopAt st a).1 (m_stopAt mt a).1
def Sim_register (Rel : Nat → CS → CS → Prop) : Prop := ∀ (k : Nat) (st mt : CS) (a b : Int32), k < 64 → Rel k st mt → o_m_register mt a b ∧ ((cPageBoard_register st a b = none ∧ m_thrown (m_register mt a b).1 = 1 ∧ Rel (k + 1) st (m_register mt a b).1) ∨ (∃ Z : CS × Int32, cPageBoard_register st a b = some Z ∧ m_thrown (m_register mt a b).1 = 0 ∧ Z.2 = (m_register mt a b).2 ∧ Rel (k + 1) Z.1 (m_register mt a b).1))
def Sim_put (Rel : Nat → CS → CS → Prop) : Prop := ∀ (k : Nat) (st mt : CS) (a b c : Int32), k < 64 → Rel k st mt → o_m_put mt a b c ∧ (cPageBoard_put st a b c).2 = (m_put mt a b c).2 ∧ Rel (k + 1) (cPageBoard_put st a b c).1 (m_put mt a b c).1
def Sim_entry (Rel : Nat → CS → CS → Prop) : Prop := ∀ (k : Nat) (st mt : CS) (a b : Int32), k < 64 → Rel k st mt → o_m_entry mt a b ∧ cPageBoard_entry st a b = (m_entry mt a b).2 ∧ Rel (k + 1) st (m_entry mt a b).1
def Sim_device (Rel : Nat → CS → CS → Prop) : Prop := ∀ (k : Nat) (st mt : CS) (a : Int32), k < 64 → Rel k st mt → o_m_device mt a ∧ cPageBoard_device st a = (m_device mt a).2 ∧ Rel (k + 1) st (m_device mt a).1
def Sim_allowed (Rel : Nat → CS → CS → Prop) : Prop := ∀ (k : Nat) (st mt : CS) (a b c : Int32), k < 64 → Rel k st mt → o_m_allowed mt a b c ∧ cPageBoard_allowed st a b c = (m_allowed mt a b c).2 ∧ Rel (k + 1) st (m_allowed mt a b c).1
def Sim_count (Rel : Nat → CS → CS → Prop) : Prop := ∀ (k : Nat) (st mt : CS) (a : Int32), k < 64 → Rel k st mt → o_m_count mt a ∧ cPageBoard_count st a = (m_count mt a).2 ∧ Rel (k + 1) st (m_count mt a).1
def Sim_look (Rel : Nat → CS → CS → Prop) : Prop := ∀ (k : Nat) (st mt : CS) (a : Int32), k < 64 → Rel k st mt → o_m_look mt a ∧ cPageBoard_look st a = (m_look mt a).2 ∧ Rel (k + 1) st (m_look mt a).1
def Sim_place (Rel : Nat → CS → CS → Prop) : Prop := ∀ (k : Nat) (st mt : CS) (a b : Int32), k < 64 → Rel k st mt → o_m_place mt a b ∧ cPageBoard_place st a b = (m_place mt a b).2 ∧ Rel (k + 1) st (m_place mt a b).1
def Sim_letter (Rel : Nat → CS → CS → Prop) : Prop := ∀ (k : Nat) (st mt : CS) (a : Int32), k < 64 → Rel k st mt → o_m_letter mt a ∧ cPageBoard_letter st a = (m_letter mt a).2 ∧ Rel (k + 1) st (m_letter mt a).1
def SimAll (Rel : Nat → CS → CS → Prop) : Prop := Sim_reset Rel ∧ Sim_poke Rel ∧ Sim_peek Rel ∧ Sim_store Rel ∧ Sim_stored Rel ∧ Sim_key Rel ∧ Sim_step Rel ∧ Sim_run Rel ∧ Sim_stopAt Rel ∧ Sim_register Rel ∧ Sim_put Rel ∧ Sim_entry Rel ∧ Sim_device Rel ∧ Sim_allowed Rel ∧ Sim_count Rel ∧ Sim_look Rel ∧ Sim_place Rel ∧ Sim_letter Rel ∧ Rel 0 (cPageBoard_beginAnew c0) (m_reset m0) ∧ o_m_reset m0
abbrev S0n : Nat := 78068
theorem nI_4 (k : Nat) : nI (4 * k) + 4 = nI (4 * (k + 1)) := by rw [show (4 : Int32) = nI 4 from rfl, nI_add]; congr 1
theorem ixL {L : Nat} (k j : Nat) (hj : j < 4) (h : 4 * k + 4 ≤ L) (hL : L ≤ 256) : vp_in (nI (4 * k) + nI j) L := by rw [nI_add]; exact vp_in_nI (by omega) (by omega)
theorem clL (k j : Nat) (hj : j < 4) (h : 4 * k + 4 ≤ 256) : (nI (4 * k) + nI j).toNatClampNeg = 4 * k + j := by rw [nI_add, nI_clamp (by omega)]
/-! THE CLAIM OUT OF ONE WALK OF THE LAW'S BODY. Your part is whole_start (and what it stands on); all else here is the same for every law, but numbers. -/
def R_law : String := "PageBoardLaw"
def lw_P (b : Addr) (xs : List Int32) (args : Array Value) (s : State) : Prop := args = #[.ref b] ∧ s.IntsAt b xs ∧ xs.length ≤ 256 ∧ (Jvm.Cond.and given_1 narrow_1).before args s = true
def lw_Q (_ : Array Value) (s : State) (o : Outcome) (t : State) : Prop := o = .returned (some (.int 1)) ∧ Framed s o t [] 175 79122
def lw_Z (below : List Frame) (a : Array Value) (s : State) : State → Prop := fun t => ∃ o, t.status = .running ∧ Ended t below o ∧ lw_Q a s o t
/-- the law's own end, with 1 on the stack, nothing written that was there before, its room as the claim has it -/
theorem lw_ret {p : Program} {l : Launch} {e : Env} {s : State} {m : MethodId} {below : List Frame} {meth : Method} {c : Code} {b : Nat} (hx : p.tables.exec = Jvm.exec) (hb : c.code = code) (hr : meth.sig.returnType = ret) (hlocks : meth.locks = false) {pc : Nat} {H : Heap} {ls : Array Slot} (hdg : decode code pc = .ok (.ireturn, 1)) : W p l e room_1 s m #[Value.ref b] below meth c H [] 175 79122 (lw_Z below #[Value.ref b] s) (F0 m pc ls [.int 1]) := by
  intro T hT X
  obtain ⟨fs, hret, hrun, hended, hW, hframe⟩ := X.leave (v := some (.int 1)) (hlocks := hlocks) (fun h => by rw [hr] at h; cases h)
  have hmeth' : T.vm.method? m = some meth := X.method'
  refine ⟨T.setFrames fs, ?_, .returned (some (.int 1)), hrun, hended, rfl, ⟨_, rfl⟩, hW, hframe⟩
  jvm_step X.here [X.here.top, hx, hb, hdg, hmeth', hr, ret, narrow_b1]
  (try refine ⟨rfl, ?_⟩); (try refine ⟨rfl, ?_⟩)
  first | (intro acts; rw [hret _ acts rfl rfl rfl]) | rw [hret _ _ rfl rfl rfl]
  exact Steps.refl _
/-- what holds at the law's entry: the machine, the code, the tables' words (any of lw_tbl by 'hts w (by decide +kernel)'), the script of L ints xs at the cell b, what the Statement gives of the start (any of its parts by flat_of_before) -/
def lw_At (p : Program) (s : State) (m : MethodId) (meth : Method) (c : Code) (b L : Nat) (xs : Nat → Int32) : Prop :=
  p.tables.exec = Jvm.exec ∧ c.code = code ∧ meth.sig.returnType = ret ∧ c.maxLocals = 7 ∧ s.vm.findClass R_law = some m.cls ∧ (∀ w ∈ lw_tbl, w.before #[Value.ref b] s = true) ∧ va_X b L xs s s.heap ∧ b < s.heap.size ∧ meth.locks = false ∧ (Jvm.Cond.and given_1 narrow_1).before #[Value.ref b] s = true
