/-! PURE 1: the relation of the two states -/
def RReg (st mt : CS) : Prop := (∀ j, j < 15 → gA st 1 j = gA mt 0 j) ∧ (∀ j, j < 7 → gA st 1 (16 + j) = gA mt 1 j) ∧ (∀ j, j < 2 → gA st 1 (23 + j) = gA mt 2 j) ∧ (∀ j, j < 2 → gA st 1 (25 + j) = gA mt 3 j)
def RMem (st mt : CS) : Prop := (∀ j, j < 16384 → gA st 0 j = gA mt 5 j) ∧ (∀ j, j < 16384 → gA st 5 j = gA mt 6 j)
def REnt (st mt : CS) : Prop := (∀ j, j < 16 → gA st 2 j = gA mt 7 j) ∧ (∀ j, j < 16 → gA st 3 j = gA mt 8 j) ∧ gI st 1 = gI mt 8
def RInt (st mt : CS) : Prop := gI st 2 = m_statusA mt ∧ gI st 3 = m_statusB mt ∧ gI st 4 = m_statusF mt ∧ gI st 5 = gI mt 10 ∧ gI st 6 = gI mt 11 ∧ gI st 7 = gI mt 12
def RBoo (mt : CS) : Prop := b01 (gI mt 9) ∧ b01 (gA mt 12 0) ∧ b01 (gA mt 12 1) ∧ b01 (gI mt 14) ∧ b01 (gI mt 22) ∧ b01 (gI mt 23)
def RSer (st mt : CS) : Prop := gI st 8 = gI mt 13 ∧ gI st 9 = gI mt 15 ∧ rng (gI mt 15) 257
def RDsk (st mt : CS) : Prop := gI st 10 = gI mt 16 ∧ gI st 11 = gI mt 17 ∧ gI st 12 = gI mt 22 ∧ gI st 16 = gI mt 18 ∧ rng (gI mt 16) 256 ∧ rng (gI mt 17) 256 ∧ rng (gI mt 18) 5001 ∧ rng (gI mt 20) 16 ∧ rng (gI mt 21) 16 ∧ (¬ gI mt 18 = 0 → gI st 13 = gI mt 20 ∧ gI st 14 = gI mt 21 ∧ (gI st 15 = 0 ↔ ¬ gI mt 19 = 1))
def RTim (st mt : CS) : Prop := gI st 18 = gA mt 13 0 ∧ gI st 19 = gA mt 14 0 ∧ gI st 20 = gA mt 15 0 ∧ gI st 21 = gA mt 13 1 ∧ gI st 22 = gA mt 14 1 ∧ gI st 23 = gA mt 15 1 ∧ ∀ t, t < 2 → rng (gA mt 13 t) 65536 ∧ rng (gA mt 14 t) 65536 ∧ rng (gA mt 15 t) 65536
def RScr (st mt : CS) : Prop := gI st 24 = gI mt 5 ∧ gI st 25 = gI mt 6 ∧ gI st 26 = gA mt 10 0 ∧ gI st 27 = gA mt 10 1 ∧ gI st 28 = gA mt 10 2 ∧ gI st 29 = gI mt 7 ∧ rng (gI mt 6) 4 ∧ (∀ j, j < 16 → gA st 6 j = gA mt 9 j) ∧ (∀ j, j < 2048 → gA st 7 j = gA mt 11 j)
def RClk (N : Nat) (st mt : CS) : Prop := ∃ n : Nat, n ≤ N ∧ gL mt 0 = lN n ∧ gI st 17 = nI (n % 4) ∧ gI st 30 = nI (20000 - n % 20000)
def ROut (N : Nat) (st mt : CS) : Prop := ∃ n : Nat, n ≤ N ∧ gL mt 1 = lN n ∧ gL st 2 = lN n ∧ ∀ i, i < n → n ≤ i + 4000 → gA st 4 (i % 4096) &&& 255 = gA mt 16 (i % 4000) &&& 255
def RCnt (st mt : CS) : Prop := gL st 0 = gL mt 2 ∧ gL st 1 = gL mt 3 ∧ gL st 3 = gL mt 6 ∧ gL st 4 = gL mt 4 ∧ gL st 5 = gL mt 5 ∧ (∀ j, j < 7 → gB st 0 j = gB mt 0 j) ∧ gI st 0 = gI mt 24
/-- all but R15 -/
def RK (N : Nat) (st mt : CS) : Prop := RReg st mt ∧ RMem st mt ∧ REnt st mt ∧ RInt st mt ∧ RBoo mt ∧ RSer st mt ∧ RDsk st mt ∧ RTim st mt ∧ RScr st mt ∧ RClk N st mt ∧ ROut N st mt ∧ RCnt st mt
def RR (N : Nat) (st mt : CS) : Prop := RK N st mt ∧ gA st 1 15 = gI mt 1
def Rel (k : Nat) (st mt : CS) : Prop := RR (k * 2000000) st mt
theorem RK.mono {N M : Nat} {st mt : CS} (h : RK N st mt) (hM : N ≤ M) : RK M st mt := by
  obtain ⟨h1, h2, h3, h4, h5, h6, h7, h8, h9, ⟨n, a, b⟩, ⟨m, c, d⟩, h12⟩ := h
  exact ⟨h1, h2, h3, h4, h5, h6, h7, h8, h9, ⟨n, Nat.le_trans a hM, b⟩, ⟨m, Nat.le_trans c hM, d⟩, h12⟩
theorem Rel_k (k : Nat) (st mt : CS) (h : Rel k st mt) : Rel (k + 1) st mt := ⟨h.1.mono (by omega), h.2⟩
/-- what the reference's 'thrown' is doesn't matter -/
theorem RK.thrown {N : Nat} {st mt : CS} (h : RK N st mt) (v : Int32) : RK N st (sI mt 0 v) := h
theorem Rel.thrown {k : Nat} {st mt : CS} (h : Rel k st mt) (v : Int32) : Rel (k + 1) st (sI mt 0 v) := Rel_k k st (sI mt 0 v) h
theorem within_iff (v a b : Int32) : m_within v a b = 0 ↔ ¬ (a ≤ v ∧ v ≤ b) := by
  unfold m_within
  by_cases h1 : v < a
  · rw [if_pos h1]; simp [Int32.not_le.mpr h1]
  · rw [if_neg h1]
    by_cases h2 : b < v
    · rw [if_pos h2]; simp [Int32.not_le.mpr h2]
    · rw [if_neg h2]; simp [Int32.not_lt.mp h1, Int32.not_lt.mp h2]
