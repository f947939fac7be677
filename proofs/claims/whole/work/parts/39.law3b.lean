theorem slots_in : ∀ j : Nat, j < 64 → Cond.eq (.elem (.static RX6 "SLOTS" "[I") (.int (Int32.ofNat j))) (.int (slotsV j)) ∈ flatC (Jvm.Cond.and given_1 narrow_1) := by decide +kernel
theorem strR {own tx : String} {k : Nat} {args : Array Value} {s : State} (h : (Cond.stringRef own k tx).before args s = true) : ∃ sa : Nat, vk_R own k tx sa s := by
  have h0 : (Cond.stringRef own k tx).before #[] s = true := h
  have h1 := h
  simp only [Cond.before, Cond.holds, Cond.value] at h1
  cases hc : s.vm.findClass own with
  | none => simp [hc] at h1
  | some cur =>
    simp only [hc, Option.map_some] at h1
    cases hr : s.resolvedAt? own k with
    | none => simp [hr] at h1
    | some rr =>
      cases rr with
      | string a =>
        refine ⟨a, h0, ?_⟩
        have hr2 := hr
        unfold State.resolvedAt? at hr2
        rw [hc] at hr2
        cases hk : s.vm.classes[cur]? with
        | none => simp [hk] at hr2
        | some kk =>
          simp [hk] at hr2
          simp [Term.eval, hc, hk, hr2]
      | _ => simp [hr] at h1
