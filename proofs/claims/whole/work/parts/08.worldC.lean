def cw (g : Gm) (st : CS) : va_W := [(gad g 0, .inr (10, [.ref (gad g 1), .ref (gad g 2), .ref (gad g 4), .ref (gad g 7), .ref (gad g 8), .ref (gad g 10), .ref (gad g 12), .ref (gad g 15), .ref (gad g 18), .ref (gad g 19), .int (gI st 0), .long (gL st 0), .long (gL st 1)])), (gad g 1, .inl (gca g 0, 16384, .inl (gA st 0))), (gad g 2, .inr (6, [.ref (gad g 3)])), (gad g 3, .inl (gca g 1, 32, .inl (gA st 1))), (gad g 4, .inr (3, [.ref (gad g 5), .ref (gad g 6), .int (gI st 1)])), (gad g 5, .inl (gca g 2, 16, .inl (gA st 2))), (gad g 6, .inl (gca g 3, 16, .inl (gA st 3))), (gad g 7, .inr (4, [.int (gI st 2), .int (gI st 3), .int (gI st 4), .int (gI st 5), .int (gI st 6), .int (gI st 7)])), (gad g 8, .inr (8, [.ref (gad g 7), .ref (gad g 9), .long (gL st 2), .int (gI st 8), .int (gI st 9)])), (gad g 9, .inl (gca g 4, 4096, .inl (gA st 4))), (gad g 10, .inr (2, [.ref (gad g 1), .ref (gad g 7), .ref (gad g 11), .int (gI st 10), .int (gI st 11), .int (gI st 12), .int (gI st 13), .int (gI st 14), .int (gI st 15), .int (gI st 16), .long (gL st 3)])), (gad g 11, .inl (gca g 5, 16384, .inl (gA st 5))), (gad g 12, .inr (1, [.ref (gad g 7), .ref (gad g 8), .ref (gad g 13), .ref (gad g 14), .int (gI st 17)])), (gad g 13, .inr (9, [.int (gI st 18), .int (gI st 19), .int (gI st 20)])), (gad g 14, .inr (9, [.int (gI st 21), .int (gI st 22), .int (gI st 23)])), (gad g 15, .inr (7, [.ref (gad g 1), .ref (gad g 7), .ref (gad g 16), .ref (gad g 17), .int (gI st 24), .int (gI st 25), .int (gI st 26), .int (gI st 27), .int (gI st 28), .int (gI st 29), .int (gI st 30), .long (gL st 4)])), (gad g 16, .inl (gca g 6, 16, .inl (gA st 6))), (gad g 17, .inl (gca g 7, 2048, .inl (gA st 7))), (gad g 18, .inr (0, [.ref (gad g 1), .ref (gad g 4), .ref (gad g 12), .ref (gad g 10), .ref (gad g 15)])), (gad g 19, .inr (5, [.ref (gad g 2), .ref (gad g 18), .ref (gad g 7), .ref (gad g 20), .ref (gad g 21), .int (gI st 31), .int (gI st 32), .int (gI st 33), .int (gI st 34), .long (gL st 5)])), (gad g 20, .inl (gca g 8, 8, .inr (.inl (gB st 0)))), (gad g 21, .inl (gca g 9, 16, .inl (gA st 8)))]
def cty (g : Gm) : List (ClassId × FieldType) := [(gca g 0, .int), (gca g 1, .int), (gca g 2, .int), (gca g 3, .int), (gca g 4, .byte), (gca g 5, .int), (gca g 6, .int), (gca g 7, .int), (gca g 8, .long), (gca g 9, .int)]
def slotsL : List Int32 := [0, 1, 2, 3, 4, 5, 6, 7, 8, 9, 10, 11, 12, 13, 14, 15, 0, 1, 2, 3, 4, 5, 6, 7, 16, 17, 18, 19, 20, 21, 22, 15, 0, 1, 2, 3, 4, 5, 6, 7, 8, 9, 10, 11, 12, 23, 24, 15, 0, 1, 2, 3, 4, 5, 6, 7, 8, 9, 10, 11, 12, 25, 26, 15]
def slotsV (j : Nat) : Int32 := slotsL.getD j 0
def cz (g : Gm) : zT := fun A U H => va_Z RX6 "SLOTS" "[I" (.ref (gtS g)) A U H ∧ va_T .int (gtS g) 64 (fun j => .int (slotsV j)) A U H
theorem cz_ok (g : Gm) : zOk (cz g) := ⟨fun A u U H hvm h => ⟨va_Z.moved hvm h.1, va_T.moved hvm h.2⟩, fun A U H H1 h hq => ⟨va_Z.kept h.1 hq, va_T.kept h.2 hq⟩, fun A B U H h hAB => ⟨va_Z.narrow h.1 hAB, va_T.narrow h.2 hAB⟩⟩
theorem vin_and (x : Int32) {m : Int32} (k : Nat) {n : Nat} (hm : m.toBitVec.toNat = 2 ^ k - 1) (hk : k ≤ 30) (hn : 2 ^ k ≤ n) : vp_in (x &&& m) n := by
  have h := pk_andIn x k hm hk
  unfold vp_in at h ⊢
  intro q
  rcases q with q | q
  · exact h (Or.inl q)
  · exact h (Or.inr (Nat.le_trans hn q))
theorem vin_slot_t : ∀ j, j < 4 → ∀ k, k < 16 → vp_in (((nI j) <<< ((4 : Int32) &&& 31)) ||| nI k) 64 := by unfold vp_in; decide +kernel
theorem vin_slot (x0 x1 : Int32) : vp_in (((x0 &&& (3 : Int32)) <<< ((4 : Int32) &&& 31)) ||| (x1 &&& (15 : Int32))) 64 := by
  obtain ⟨j, hj, e⟩ := pk_andE x0 (m := 3) 2 rfl
  obtain ⟨k, hk, e2⟩ := pk_andE x1 (m := 15) 4 rfl
  rw [e, e2]
  exact vin_slot_t j hj k hk
