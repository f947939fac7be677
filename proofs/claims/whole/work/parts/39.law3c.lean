set_option maxHeartbeats 8000000 in
set_option maxRecDepth 100000 in
/-- THE LAW, from its entry -/
theorem whole_open (Rel : Nat → CS → CS → Prop) (HS : SimAll Rel) (HSk : ∀ k st mt, Rel k st mt → Rel (k + 1) st mt) {p : Program} {e : Env} {s : State} {m : MethodId} {below : List Frame} {meth : Method} {c : Code} (l : Launch) (hl0 : l.stackTraces = false) {b L : Nat} {xs : Nat → Int32} (hL0 : L ≤ 256) (C0 : lw_At p s m meth c b L xs) : W p l e room_1 s m #[Value.ref b] below meth c s.heap [] 0 0 (lw_Z below #[Value.ref b] s) (entryFrame m ([Value.ref b] : List Value).toArray 7) := by
  obtain ⟨hx, hb, hr, hml, hown, hts, hX, hbl, hlocks, hgv⟩ := id C0
  have hA : ∀ q : Nat, s.heap.size ≤ q → (fun q : Nat => s.heap.size ≤ q) q := fun _ h => h
  have hnA : ∀ a : Nat, a < s.heap.size → ¬ (fun q : Nat => s.heap.size ≤ q) a := fun a h => Nat.not_le.mpr h
  have s00 : S0n = 78068 := rfl
  have hs := flat_of_before _ hgv
  obtain ⟨cl0, iS0, hKn0⟩ := u_known (C := RX0) (T := TX0) (N := 5) (n := 5) hts (fun w h => (tAll w (isX00 w h)).1) (hts _ (tAll _ mw41).1)
  obtain ⟨cl1, iS1, hKn1⟩ := u_known (C := RX1) (T := TX1) (N := 5) (n := 5) hts (fun w h => (tAll w (isX10 w h)).1) (hts _ (tAll _ mw33).1)
  obtain ⟨cl2, iS2, hKn2⟩ := u_known (C := RX2) (T := TX2) (N := 11) (n := 11) hts (fun w h => (tAll w (isX20 w h)).1) (hts _ (tAll _ mw29).1)
  obtain ⟨cl3, iS3, hKn3⟩ := u_known (C := RX3) (T := TX3) (N := 3) (n := 3) hts (fun w h => (tAll w (isX30 w h)).1) (hts _ (tAll _ mw17).1)
  obtain ⟨cl4, iS4, hKn4⟩ := u_known (C := RX4) (T := TX4) (N := 6) (n := 6) hts (fun w h => (tAll w (isX40 w h)).1) (hts _ (tAll _ mw21).1)
  obtain ⟨cl5, iS5, hKn5⟩ := u_known (C := RX5) (T := TX5) (N := 10) (n := 10) hts (fun w h => (tAll w (isX50 w h)).1) (hts _ (tAll _ mw45).1)
  obtain ⟨cl6, iS6, hKn6⟩ := u_known (C := RX6) (T := TX6) (N := 1) (n := 1) hts (fun w h => (tAll w (isX60 w h)).1) (hts _ (tAll _ mw13).1)
  obtain ⟨cl7, iS7, hKn7⟩ := u_known (C := RX7) (T := TX7) (N := 12) (n := 12) hts (fun w h => (tAll w (isX70 w h)).1) (hts _ (tAll _ mw37).1)
  obtain ⟨cl8, iS8, hKn8⟩ := u_known (C := RX8) (T := TX8) (N := 5) (n := 5) hts (fun w h => (tAll w (isX80 w h)).1) (hts _ (tAll _ mw25).1)
  obtain ⟨cl9, iS9, hKn9⟩ := u_known (C := RX9) (T := TX9) (N := 3) (n := 3) hts (fun w h => (tAll w (isX90 w h)).1) (hts _ (tAll _ mw80).1)
  obtain ⟨cl10, iS10, hKn10⟩ := u_known (C := RX10) (T := TX10) (N := 13) (n := 13) hts (fun w h => (tAll w (isX100 w h)).1) (hts _ (tAll _ mw0).1)
  obtain ⟨cl11, iS11, hKn11⟩ := u_known (C := RX11) (T := TX11) (N := 50) (n := 50) hts (fun w h => (tAll w (isX110 w h)).1) (hts _ (tAll _ mw2).1)
  obtain ⟨dC, dI, hKc⟩ : ∃ (dC : Nat → ClassId) (dI : Nat → Nat → Nat), ∀ (k : Nat) (q : vw_C), vwCl[k]? = some q → u_Kn s q.1 q.2.1 q.2.2 (dC k) (dI k) := by
    refine ⟨fun k => ([cl0, cl1, cl2, cl3, cl4, cl5, cl6, cl7, cl8, cl9, cl10, cl11] : List ClassId).getD k 0, fun k => ([iS0, iS1, iS2, iS3, iS4, iS5, iS6, iS7, iS8, iS9, iS10, iS11] : List (Nat → Nat)).getD k (fun _ => 0), ?_⟩
    intro k q hq
    match k, hq with
    | 0, hq => cases hq; exact hKn0
    | 1, hq => cases hq; exact hKn1
    | 2, hq => cases hq; exact hKn2
    | 3, hq => cases hq; exact hKn3
    | 4, hq => cases hq; exact hKn4
    | 5, hq => cases hq; exact hKn5
    | 6, hq => cases hq; exact hKn6
    | 7, hq => cases hq; exact hKn7
    | 8, hq => cases hq; exact hKn8
    | 9, hq => cases hq; exact hKn9
    | 10, hq => cases hq; exact hKn10
    | 11, hq => cases hq; exact hKn11
    | k + 12, hq => simp [vwCl] at hq
  have hS : va_S (fun q : Nat => s.heap.size ≤ q) s.heap s.heap [] := va_S.rf
  have hK : va_K (dC, dI) vwCl [] s := ⟨hKc, fun k q h => by simp at h⟩
  have hP : va_P (dC, dI) vwCl [] s.heap := fun k q h => by simp at h
  have hD : va_D (fun q : Nat => s.heap.size ≤ q) [] := ⟨fun i j p q h => by simp at h, fun k q h => by simp at h⟩
  have hsl0 : (Cond.arrayOf (.static RX6 "SLOTS" "[I") .int).before #[Value.ref b] s = true := hs _ (by decide +kernel)
  have hsl1 := va_eqt (hs (Cond.eq (.length (.static RX6 "SLOTS" "[I")) (.int 64)) (by decide +kernel))
  have hsl2 : ∀ j : Nat, j < 64 → (Cond.eq (.elem (.static RX6 "SLOTS" "[I") (.int (Int32.ofNat j))) (.int (slotsV j))).before #[Value.ref b] s = true := fun j hj => hs _ (slots_in j hj)
  obtain ⟨tS, htS, hTab⟩ := va_Tof (f := fun j => .int (slotsV j)) (by decide) hsl0 hsl1 (fun j hj => va_eqt (hsl2 j hj)) hnA
  have hZ0 := va_Zref (C := RX6) (n := "SLOTS") (d := "[I") (hts _ (by decide +kernel)) (hts _ (tAll _ mw14).1) htS hnA
  have hZ : cz (dC, dI, (fun _ => 0), (fun _ => 0), tS) (fun q : Nat => s.heap.size ≤ q) s s.heap := ⟨hZ0, hTab⟩
  have hU := vx_Zqof (C := Bundle.tN) (n := "UNASSIGNED_STACK") (d := Bundle.steD) (A := fun q : Nat => s.heap.size ≤ q) (hts _ (by decide +kernel)) (hts _ (by decide +kernel)) (hs _ (by decide +kernel)) hnA
  have hN := vx_Zqof (C := Bundle.tN) (n := "SUPPRESSED_SENTINEL") (d := Bundle.listD) (A := fun q : Nat => s.heap.size ≤ q) (hts _ (by decide +kernel)) (hts _ (by decide +kernel)) (hs _ (by decide +kernel)) hnA
  have hn0 := va_Nw.of (w := .declares (Bundle.initS "java/lang/RuntimeException")) rfl (hts _ (by decide +kernel))
  have hn1 := va_Nw.of (w := .declares (Bundle.initS "java/lang/Exception")) rfl (hts _ (by decide +kernel))
  have hn2 := va_Nw.of (w := .declares (Bundle.initS Bundle.tN)) rfl (hts _ (by decide +kernel))
  have hc0 := va_Nw.of (w := .castable "java/lang/IndexOutOfBoundsException" "java/lang/IndexOutOfBoundsException") rfl (hts _ (by decide +kernel))
  have hc1 := va_Nw.of (w := .castable "java/lang/IllegalArgumentException" "java/lang/IllegalArgumentException") rfl (hts _ (by decide +kernel))
  have hT_peek : tP "java/lang/IndexOutOfBoundsException" 95 "no such word of MEMORY" (fun q : Nat => s.heap.size ≤ q) s s.heap := ⟨hU, hN, strR (hts (.stringRef RX10 95 "no such word of MEMORY") (by decide +kernel)), hn0, hn1, hn2, hc0⟩
  have hT_stored : tP "java/lang/IndexOutOfBoundsException" 108 "no such word of a SECTOR" (fun q : Nat => s.heap.size ≤ q) s s.heap := ⟨hU, hN, strR (hts (.stringRef RX10 108 "no such word of a SECTOR") (by decide +kernel)), hn0, hn1, hn2, hc0⟩
  have hT_step : tP "java/lang/IllegalArgumentException" 120 "not 1 .. 5000 STEPS" (fun q : Nat => s.heap.size ≤ q) s s.heap := ⟨hU, hN, strR (hts (.stringRef RX10 120 "not 1 .. 5000 STEPS") (by decide +kernel)), hn0, hn1, hn2, hc1⟩
  have hT_run : tP "java/lang/IllegalArgumentException" 131 "not 1 .. 20000 TICKS" (fun q : Nat => s.heap.size ≤ q) s s.heap := ⟨hU, hN, strR (hts (.stringRef RX10 131 "not 1 .. 20000 TICKS") (by decide +kernel)), hn0, hn1, hn2, hc1⟩
  have hT_register : tP "java/lang/IndexOutOfBoundsException" 138 "no such register" (fun q : Nat => s.heap.size ≤ q) s s.heap := ⟨hU, hN, strR (hts (.stringRef RX10 138 "no such register") (by decide +kernel)), hn0, hn1, hn2, hc0⟩
  have hm0 := va_Nw.of (w := .methodLinkNest RX10 15 yX6_init "PageBoard") rfl (hts _ (by decide +kernel))
  have hm1 := va_Nw.of (w := .methodLinkNest RX10 22 yX3_init "PageBoard") rfl (hts _ (by decide +kernel))
  have hm2 := va_Nw.of (w := .methodLinkNest RX10 29 yX4_init "PageBoard") rfl (hts _ (by decide +kernel))
  have hm3 := va_Nw.of (w := .methodLinkNest RX1 11 yX9_init "PageBoard") rfl (hts _ (by decide +kernel))
  have hl := lv_entry ([.ref b]) (n := 7) (Nat.le_of_ble_eq_true rfl)
  rw [lg_entry_eq]
  generalize (lg_sl ([.ref b]) ++ List.replicate (7 - (lg_sl ([.ref b])).length) Slot.unset).toArray = ls at hl ⊢
  have hl : lv_has ls 7 [(0, .ref b)] := hl
  refine va_new (ci := 10) (fs := [.null, .null, .null, .null, .null, .null, .null, .null, .null, .null, .int 0, .long 0, .long 0]) (C := RX10) (T := TX10) (N := 13) hx hb hts (fun w h => (tAll w (isX100 w h)).1) tyX10 tyX10_ok hown (hts _ (inT _ (wLw_in (List.mem_of_getElem? (i := 0) rfl)))) (hts _ (tAll _ mw0).1) (hts _ (tAll _ mw1).1) hK hP hD hS hA rfl df_10 (Nat.le_of_ble_eq_true rfl) (Nat.le_of_ble_eq_true rfl) dL_law_0 (fun q1 H hP hD hS => ?_)
  have hP : va_P (dC, dI) vwCl [(q1, .inr (10, [.null, .null, .null, .null, .null, .null, .null, .null, .null, .null, .int 0, .long 0, .long 0]))] H := hP
  have hD : va_D (fun q : Nat => s.heap.size ≤ q) [(q1, .inr (10, [.null, .null, .null, .null, .null, .null, .null, .null, .null, .null, .int 0, .long 0, .long 0]))] := hD
  refine W.widen (k := 1) (n := 13) (by omega) (by omega) ?_
  refine lv_dup hx hb dL_law_3 rfl ?_
  have hFc := va_free (wc := [(q1, .inr (10, [.null, .null, .null, .null, .null, .null, .null, .null, .null, .null, .int 0, .long 0, .long 0]))]) hD hS hA [0] rfl
  refine va_callv (va_runI (As := []) (rest := [.ref q1]) ⟨hx, hb, hml, hown, hts⟩ (c_ini_PageBoard l dC dI q1 tS H.size) (cwI 0 hts (gT (fun w h => (List.mem_cons.mp h).elim (fun e => e ▸ (wAX_in (wAll_in mw6))) (fun h => wAX_in (wAll_in h)))) rfl rfl rfl (hts _ (tAll _ mw1).1) (hts _ (inT _ (wLw_in (List.mem_of_getElem? (i := 2) rfl)))) (hts _ (tAll _ mw5).1) rfl (by decide +kernel) ⟨Nat.le_of_ble_eq_true rfl, Nat.le_of_ble_eq_true rfl⟩) ⟨fun a U g mk q => by obtain ⟨q0, q1, qP, qK, qD, qZ, n0, n1, n2, n3⟩ := q; exact ⟨q0, q1, qP, va_K.moved (u := U) (U := U.calling g mk a) (Vm.Alike.refl U.vm) qK, qD, (cz_ok _).1 _ U (U.calling g mk a) _ (Vm.Alike.refl U.vm) qZ, va_Nw.same rfl rfl n0, va_Nw.same rfl rfl n1, va_Nw.same rfl rfl n2, va_Nw.same rfl rfl n3⟩, fun U hU hW => ⟨rfl, by rw [hU], by rw [hU]; exact hP, va_K.moved hW.alike hK, hD.weaken (fun _ _ _ _ => trivial), by rw [hU]; exact (cz_ok _).2.2 _ _ _ _ ((cz_ok _).2.1 _ U s.heap H ((cz_ok _).1 _ s U s.heap hW.alike hZ) hS.2.1) hFc, va_Nw.warmM hW hm0, va_Nw.warmM hW hm1, va_Nw.warmM hW hm2, va_Nw.warmM hW hm3⟩⟩ rfl rfl hl.1 rfl (lv_room (Nat.le_of_ble_eq_true rfl)) dL_law_4 ⟨Nat.le_of_ble_eq_true rfl, Nat.le_of_ble_eq_true rfl⟩) hS (fun q _ h => hFc q h) hFc (fun g1 t H1 locs ht hvm hw hB hz1 hk1 hS => ?_)
  obtain ⟨dC1, dI1, ad1, ca1, tS1⟩ := g1
  obtain ⟨e1, e2, e3, e4⟩ := hw; obtain rfl : dC = dC1 := Eq.symm e1; obtain rfl : dI = dI1 := Eq.symm e2
  have e3 : ad1 0 = q1 := e3
  have e4 : tS = tS1 := e4.symm
  subst e4
  obtain ⟨hP1, hK1, hD1⟩ := hB
  rw [ht] at hP1
  have hK1 := va_K.moved hvm.symm hK1
  have hD1 := hD1.weaken (B := fun q : Nat => s.heap.size ≤ q) (fun _ _ _ h => hFc _ h)
  generalize H1 = H at hP1 hS ⊢
  have hP : va_P (dC, dI) vwCl (cw (dC, dI, ad1, ca1, tS) (cPageBoard_beginAnew c0)) H := hP1
  have hD : va_D (fun q : Nat => s.heap.size ≤ q) (cw (dC, dI, ad1, ca1, tS) (cPageBoard_beginAnew c0)) := hD1
  have hZ : cz (dC, dI, ad1, ca1, tS) (fun q : Nat => s.heap.size ≤ q) s s.heap := hZ
  refine W.widen (k := 22) (n := 39093) (by omega) (by omega) ?_
  refine lv_astore_n (lv' := [(1, .ref q1), (0, .ref b)]) hx hb dL_law_7 rfl hl (by decide) rfl (fun ls hl => ?_)
  refine va_new (ci := 11) (fs := [.int 0, .null, .null, .null, .null, .int 0, .int 0, .int 0, .int 0, .null, .null, .null, .null, .null, .null, .int 0, .int 0, .int 0, .int 0, .null, .null, .long 0, .int 0, .null, .null, .null, .null, .int 0, .int 0, .int 0, .int 0, .int 0, .int 0, .int 0, .int 0, .int 0, .int 0, .int 0, .int 0, .int 0, .int 0, .null, .long 0, .int 0, .long 0, .long 0, .null, .long 0, .long 0, .long 0]) (C := RX11) (T := TX11) (N := 50) hx hb hts (fun w h => (tAll w (isX110 w h)).1) tyX11 tyX11_ok hown (hts _ (inT _ (wLw_in (List.mem_of_getElem? (i := 1) rfl)))) (hts _ (tAll _ mw2).1) (hts _ (tAll _ mw3).1) hK hP hD hS hA rfl df_11 (Nat.le_of_ble_eq_true rfl) (Nat.le_of_ble_eq_true rfl) dL_law_8 (fun q2 H hP hD hS => ?_)
  have hP : va_P (dC, dI) vwCl (cw (dC, dI, ad1, ca1, tS) (cPageBoard_beginAnew c0) ++ [(q2, .inr (11, [.int 0, .null, .null, .null, .null, .int 0, .int 0, .int 0, .int 0, .null, .null, .null, .null, .null, .null, .int 0, .int 0, .int 0, .int 0, .null, .null, .long 0, .int 0, .null, .null, .null, .null, .int 0, .int 0, .int 0, .int 0, .int 0, .int 0, .int 0, .int 0, .int 0, .int 0, .int 0, .int 0, .int 0, .int 0, .null, .long 0, .int 0, .long 0, .long 0, .null, .long 0, .long 0, .long 0]))]) H := hP
  have hD : va_D (fun q : Nat => s.heap.size ≤ q) (cw (dC, dI, ad1, ca1, tS) (cPageBoard_beginAnew c0) ++ [(q2, .inr (11, [.int 0, .null, .null, .null, .null, .int 0, .int 0, .int 0, .int 0, .null, .null, .null, .null, .null, .null, .int 0, .int 0, .int 0, .int 0, .null, .null, .long 0, .int 0, .null, .null, .null, .null, .int 0, .int 0, .int 0, .int 0, .int 0, .int 0, .int 0, .int 0, .int 0, .int 0, .int 0, .int 0, .int 0, .int 0, .null, .long 0, .int 0, .long 0, .long 0, .null, .long 0, .long 0, .long 0]))]) := hD
  refine W.widen (k := 23) (n := 39143) (by omega) (by omega) ?_
  refine lv_dup hx hb dL_law_11 rfl ?_
  have hPc := hP.sub (ws' := [(q2, .inr (11, [.int 0, .null, .null, .null, .null, .int 0, .int 0, .int 0, .int 0, .null, .null, .null, .null, .null, .null, .int 0, .int 0, .int 0, .int 0, .null, .null, .long 0, .int 0, .null, .null, .null, .null, .int 0, .int 0, .int 0, .int 0, .int 0, .int 0, .int 0, .int 0, .int 0, .int 0, .int 0, .int 0, .int 0, .int 0, .null, .long 0, .int 0, .long 0, .long 0, .null, .long 0, .long 0, .long 0]))]) [22] rfl
  have hDc := hD.sub (ws' := [(q2, .inr (11, [.int 0, .null, .null, .null, .null, .int 0, .int 0, .int 0, .int 0, .null, .null, .null, .null, .null, .null, .int 0, .int 0, .int 0, .int 0, .null, .null, .long 0, .int 0, .null, .null, .null, .null, .int 0, .int 0, .int 0, .int 0, .int 0, .int 0, .int 0, .int 0, .int 0, .int 0, .int 0, .int 0, .int 0, .int 0, .null, .long 0, .int 0, .long 0, .long 0, .null, .long 0, .long 0, .long 0]))]) [22] (by decide) rfl
  have hFc := va_free (wc := [(q2, .inr (11, [.int 0, .null, .null, .null, .null, .int 0, .int 0, .int 0, .int 0, .null, .null, .null, .null, .null, .null, .int 0, .int 0, .int 0, .int 0, .null, .null, .long 0, .int 0, .null, .null, .null, .null, .int 0, .int 0, .int 0, .int 0, .int 0, .int 0, .int 0, .int 0, .int 0, .int 0, .int 0, .int 0, .int 0, .int 0, .null, .long 0, .int 0, .long 0, .long 0, .null, .long 0, .long 0, .long 0]))]) hD hS hA [22] rfl
  refine va_callv (va_runI (As := []) (rest := [.ref q2]) ⟨hx, hb, hml, hown, hts⟩ (c_ini_PageBoardModel l dC dI q2 0 H.size HS.2.2.2.2.2.2.2.2.2.2.2.2.2.2.2.2.2.2.2) (cwI 0 hts (gT (fun w h => (List.mem_cons.mp h).elim (fun e => e ▸ (wAX_in (wAll_in mw183))) (fun h => wAX_in (wAll_in h)))) rfl rfl rfl (hts _ (tAll _ mw3).1) (hts _ (inT _ (wLw_in (List.mem_of_getElem? (i := 3) rfl)))) (hts _ (tAll _ mw182).1) rfl (by decide +kernel) ⟨Nat.le_of_ble_eq_true rfl, Nat.le_of_ble_eq_true rfl⟩) ⟨fun a U g mk q => by obtain ⟨q0, q1, qP, qK, qD, qZ⟩ := q; exact ⟨q0, q1, qP, va_K.moved (u := U) (U := U.calling g mk a) (Vm.Alike.refl U.vm) qK, qD, trivial⟩, fun U hU hW => ⟨rfl, by rw [hU], by rw [hU]; exact hPc, va_K.moved hW.alike hK, hDc.weaken (fun _ _ _ _ => trivial), trivial⟩⟩ rfl rfl hl.1 rfl (lv_room (Nat.le_of_ble_eq_true rfl)) dL_law_12 ⟨Nat.le_of_ble_eq_true rfl, Nat.le_of_ble_eq_true rfl⟩) hS (fun q _ h => hFc q h) hFc (fun g2 t H1 locs ht hvm hw hB hz1 hk1 hS => ?_)
  obtain ⟨dC2, dI2, ad2, ca2, t2⟩ := g2
  obtain ⟨f1, f2, f3, -⟩ := hw; obtain rfl : dC = dC2 := Eq.symm f1; obtain rfl : dI = dI2 := Eq.symm f2
  have f3 : ad2 0 = q2 := f3
  obtain ⟨hP2, hK2, hD2⟩ := hB
  rw [ht] at hP2
  have hK2 := va_K.moved hvm.symm hK2
  obtain ⟨hP, hD⟩ := va_join (wr := cw (dC, dI, ad1, ca1, tS) (cPageBoard_beginAnew c0)) (w1 := mw (dC, dI, ad2, ca2, t2) (m_reset m0)) hP hD [22] [0, 1, 2, 3, 4, 5, 6, 7, 8, 9, 10, 11, 12, 13, 14, 15, 16, 17, 18, 19, 20, 21] rfl rfl (by decide) (by decide) hk1 hFc hP2 hD2
  generalize H1 = H at hP hS ⊢
  have hR0 : Rel 0 (cPageBoard_beginAnew c0) (m_reset m0) := HS.2.2.2.2.2.2.2.2.2.2.2.2.2.2.2.2.2.2.1
  clear hP1 hD1 hP2 hD2
  generalize cPageBoard_beginAnew c0 = st0 at hP hD hR0
  generalize m_reset m0 = mt0 at hP hD hR0
  refine W.widen (k := 41) (n := 78067) (by omega) (by omega) ?_
  refine lv_astore_n (lv' := [(2, .ref q2), (1, .ref q1), (0, .ref b)]) hx hb dL_law_15 rfl hl (by decide) rfl (fun ls hl => ?_)
  refine lv_iconst (v := (1 : Int32)) hx hb dL_law_16 (by decide) ?_
  refine va_newa (atype := .long) (ty := .long) (N' := 1) (a0 := (1, .inr (.inl (fun _ => 0)))) hx hb (hts _ (tAll _ mw4).1) rfl hK hP hD hS hA (fun _ => rfl) (by decide) rfl (by decide) (Nat.le_of_ble_eq_true rfl) (Nat.le_of_ble_eq_true rfl) dL_law_17 (fun qo cJ H hK3 hP hD hS => ?_)
  refine W.widen (k := 42 + 0) (n := S0n + 6 * 0) (by omega) (by omega) ?_
  refine lv_astore_n (lv' := [(3, .ref qo), (2, .ref q2), (1, .ref q1), (0, .ref b)]) hx hb dL_law_19 rfl hl (by decide) rfl (fun ls hl => ?_)
  refine lv_iconst (v := (0 : Int32)) hx hb dL_law_20 (by decide) ?_
  refine lv_istore (lv' := [(4, .int 0), (3, .ref qo), (2, .ref q2), (1, .ref q1), (0, .ref b)]) hx hb dL_law_21 hl (by decide) rfl (fun ls hl => ?_)
  rw [← e3, ← f3] at hl
  have hP : va_P (dC, dI) vwCl ((cw (dC, dI, ad1, ca1, tS) st0 ++ mw (dC, dI, ad2, ca2, t2) mt0) ++ oW qo cJ (fun _ => 0)) H := hP
  have hD : va_D (fun q : Nat => s.heap.size ≤ q) ((cw (dC, dI, ad1, ca1, tS) st0 ++ mw (dC, dI, ad2, ca2, t2) mt0) ++ oW qo cJ (fun _ => 0)) := hD
  have hDa := hD.sub (ws' := mw (dC, dI, ad2, ca2, t2) mt0 ++ (cw (dC, dI, ad1, ca1, tS) st0 ++ oW qo cJ (fun _ => 0))) [22, 23, 24, 25, 26, 27, 28, 29, 30, 31, 32, 33, 34, 35, 36, 37, 38, 39, 40, 0, 1, 2, 3, 4, 5, 6, 7, 8, 9, 10, 11, 12, 13, 14, 15, 16, 17, 18, 19, 20, 21, 41] (by decide) rfl
  have hDb := hD.sub (ws' := (cw (dC, dI, ad1, ca1, tS) st0 ++ oW qo cJ (fun _ => 0)) ++ mw (dC, dI, ad2, ca2, t2) mt0) [0, 1, 2, 3, 4, 5, 6, 7, 8, 9, 10, 11, 12, 13, 14, 15, 16, 17, 18, 19, 20, 21, 41, 22, 23, 24, 25, 26, 27, 28, 29, 30, 31, 32, 33, 34, 35, 36, 37, 38, 39, 40] (by decide) rfl
  have hL : LI (dC, dI) (dC, dI, ad1, ca1, tS) (dC, dI, ad2, ca2, t2) qo cJ (fun q : Nat => s.heap.size ≤ q) s st0 mt0 (fun _ => 0) H locs := ⟨(appP (appP hP).1).1, (appP (appP hP).1).2, (appP hP).2, dcong (by rfl) hD, dcong (by rfl) hDa, dcong (by rfl) hDb, hS⟩
  exact law_loop Rel HS HSk hL0 hl0 C0 hK1 hK2 (hK3.sub [0] rfl) hZ hT_peek hT_stored hT_step hT_run hT_register (L + 1) 0 0 _ _ _ H locs ls (by omega) (by omega) rfl hR0 hL (lv_sub hl [4, 3, 2, 1, 0] rfl)
