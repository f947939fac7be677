/-! HAND: rows on counters, fills, indexes -/
def fl_ok (n : Nat) (x y : Int32) : Prop := ∃ j : Nat, j ≤ n ∧ x = nI j ∧ y = nI n
theorem fl_in {n : Nat} {x y : Int32} (hn : n < 2 ^ 31) (h : fl_ok n x y) (c : ¬ y ≤ x) : vp_in x n := by
  obtain ⟨j, hj, rfl, rfl⟩ := h
  rcases Nat.lt_or_ge j n with q | q
  · exact vp_in_nI q hn
  · exact absurd (nI_le q (by omega)) c
theorem fl_st {n : Nat} {x y : Int32} (h : fl_ok n x y) (hn : n < 2 ^ 31) (c : ¬ y ≤ x) : fl_ok n (x + (1 : Int32)) y := by
  obtain ⟨j, hj, rfl, rfl⟩ := h
  rcases Nat.lt_or_ge j n with q | q
  · exact ⟨j + 1, q, nI_1 j, rfl⟩
  · exact absurd (nI_le q (by omega)) c
def up_ok (n : Nat) (x : Int32) : Prop := ∃ j : Nat, j ≤ n ∧ x = nI j
theorem up_in {n : Nat} {x y : Int32} (hn : n < 2 ^ 31) (hy : y = nI n) (h : up_ok n x) (c : ¬ y ≤ x) : vp_in x n := by
  obtain ⟨j, hj, rfl⟩ := h
  subst hy
  rcases Nat.lt_or_ge j n with q | q
  · exact vp_in_nI q hn
  · exact absurd (nI_le q (by omega)) c
theorem up_st {n : Nat} {x y : Int32} (hn : n < 2 ^ 31) (hy : y = nI n) (h : up_ok n x) (c : ¬ y ≤ x) : up_ok n (x + (1 : Int32)) := by
  obtain ⟨j, hj, rfl⟩ := h
  subst hy
  rcases Nat.lt_or_ge j n with q | q
  · exact ⟨j + 1, q, nI_1 j⟩
  · exact absurd (nI_le q (by omega)) c
theorem some_getD {α : Type} {o : Option α} {d : α} (h : ∃ r, o = some r) : some (o.getD d) = o := by
  obtain ⟨r, rfl⟩ := h
  rfl
theorem gA_sA_same (st : CS) (k : Nat) (f : Nat → Int32) : gA (sA st k f) k = f := by simp [gA, sA]
theorem sA_same (st : CS) (k : Nat) (f : Nat → Int32) (h : ∀ i, f i = gA st k i) : sA st k f = st := by
  obtain ⟨a, b, c, d⟩ := st
  have e : f = c k := funext h
  have e2 : (fun j => if j = k then c k else c j) = c := funext fun j => by by_cases hj : j = k <;> simp [hj]
  rw [e]
  show (a, b, (fun j => if j = k then c k else c j), d) = (a, b, c, d)
  rw [e2]
theorem sA_sA (st : CS) (k : Nat) (f g : Nat → Int32) : sA (sA st k f) k g = sA st k g := by
  obtain ⟨a, b, c, d⟩ := st
  have e2 : (fun j => if j = k then g else (if j = k then f else c j)) = (fun j => if j = k then g else c j) := funext fun j => by by_cases hj : j = k <;> simp [hj]
  show (a, b, (fun j => if j = k then g else (if j = k then f else c j)), d) = (a, b, (fun j => if j = k then g else c j), d)
  rw [e2]
/-- places j .. n - 1 of array k become x -/
def fillS (k : Nat) (st : CS) (j n : Nat) (x : Int32) : CS := sA st k (fun i => if j ≤ i ∧ i < n then x else gA st k i)
theorem fillS_0 (k : Nat) (st : CS) (n : Nat) (x : Int32) : fillS k st n n x = st := sA_same st k _ (fun i => by
  rw [if_neg (by omega)])
theorem fillS_st (k : Nat) (st : CS) (j n : Nat) (x : Int32) (h : j < n) : fillS k (sA st k (upd (gA st k) j x)) (j + 1) n x = fillS k st j n x := by
  unfold fillS
  rw [sA_sA, gA_sA_same]
  congr 1
  funext i
  by_cases h1 : j + 1 ≤ i ∧ i < n
  · rw [if_pos h1, if_pos (by omega)]
  · rw [if_neg h1]
    by_cases h2 : i = j
    · subst h2
      rw [pk_us, if_pos (by omega)]
    · rw [pk_un h2, if_neg (by omega)]
theorem vin_sec (x y : Int32) : vp_in (((x &&& (15 : Int32)) * (1024 : Int32)) + (y &&& (1023 : Int32))) 16384 := by
  obtain ⟨j, hj, e⟩ := pk_andE x (m := 15) 4 rfl
  obtain ⟨k, hk, e2⟩ := pk_andE y (m := 1023) 10 rfl
  rw [e, e2, show (1024 : Int32) = nI 1024 from rfl, pk_mul, nI_add]
  exact vp_in_nI (by omega) (by decide)
theorem sec_nI (x : Int32) : ∃ j : Nat, j < 16 ∧ (x &&& (15 : Int32)) * (1024 : Int32) = nI (j * 1024) := by
  obtain ⟨j, hj, e⟩ := pk_andE x (m := 15) 4 rfl
  exact ⟨j, hj, by rw [e, show (1024 : Int32) = nI 1024 from rfl, pk_mul]⟩
theorem sec_nn (x : Int32) : ¬ ((x &&& (15 : Int32)) * (1024 : Int32)) < 0 := by
  obtain ⟨j, hj, e⟩ := sec_nI x
  rw [e]
  exact nI_pos (by omega)
theorem sec_le (x : Int32) : ((x &&& (15 : Int32)) * (1024 : Int32)).toNatClampNeg + (1024 : Int32).toNatClampNeg ≤ 16384 := by
  obtain ⟨j, hj, e⟩ := sec_nI x
  rw [e, nI_clamp (by omega), show (1024 : Int32).toNatClampNeg = 1024 from rfl]
  omega
theorem ushr_nI (x s : Int32) (k : Nat) (hs : ((s.toUInt32 &&& Int32.toUInt32 31).toBitVec % 32).toNat = k) : ushr x s = nI (x.toBitVec.toNat / 2 ^ k) := by
  have h := pk_ushr x s k hs
  have hlt : x.toBitVec.toNat / 2 ^ k < 2 ^ 32 := Nat.lt_of_le_of_lt (Nat.div_le_self _ _) x.toBitVec.isLt
  apply Int32.toBitVec_inj.mp
  apply BitVec.eq_of_toNat_eq
  rw [show (ushr x s).toBitVec.toNat = _ from h, pk_tn hlt]
theorem vin_u26 (x : Int32) (c : ¬ (16 : Int32) ≤ ushr x (26 : Int32)) : vp_in (ushr x (26 : Int32)) 16 := by
  have e := ushr_nI x (26 : Int32) 26 (by decide)
  rw [e] at c ⊢
  have h := x.toBitVec.isLt
  have h2 : x.toBitVec.toNat / 2 ^ 26 < 64 := by omega
  rcases Nat.lt_or_ge (x.toBitVec.toNat / 2 ^ 26) 16 with q | q
  · exact vp_in_nI q (by decide)
  · exact absurd (nI_le (a := 16) q (by omega)) c
/-- 0 ≤ x < n as an index -/
theorem vin_lt {x : Int32} {n : Nat} (hn : n < 2 ^ 31) {y : Int32} (hy : y = nI n) (h0 : ¬ x < 0) (h : x < y) : vp_in x n := by
  obtain ⟨j, hj, rfl⟩ := nI_of h0
  subst hy
  exact vp_in_nI ((nI_ltI hj hn).mp h) hn
theorem vin_lt1 {x : Int32} {n : Nat} (hn : n + 1 < 2 ^ 31) {y : Int32} (hy : y = nI n) (h0 : ¬ x < 0) (h : x < y) : vp_in (x + (1 : Int32)) (n + 1) := by
  obtain ⟨j, hj, rfl⟩ := nI_of h0
  subst hy
  have h2 := (nI_ltI hj (by omega)).mp h
  rw [nI_1]
  exact vp_in_nI (by omega) hn
theorem vin_mono {x : Int32} {n k : Nat} (h : vp_in x n) (hk : n ≤ k) : vp_in x k := by
  unfold vp_in at h ⊢
  intro q
  rcases q with q | q
  · exact h (Or.inl q)
  · exact h (Or.inr (Nat.le_trans hk q))
