/-! The model's operations on a file that is there. -/
abbrev disF (f : Nat → Int32) (n : Nat) : Prop := ∀ i j, i < n → j < n → f (5 + 4 * i) = f (5 + 4 * j) → i = j
section Mj
variable {σ : Mem} {b : Nat} {d : Nat → Nat → Int32}
theorem nQ_m1 {i : Nat} (h : i < 2147483648) : (nQ i = -1) = False := by
  refine propext ⟨fun e => ?_, fun e => e.elim⟩
  have := congrArg Int32.toInt e
  rw [nQ_int h] at this
  have e : ((-1 : Int32)).toInt = -1 := by decide
  omega
theorem q30 : (nQ 3 = nQ 0) = False := by rw [nQ_eq (by decide) (by decide)]; simp
end Mj
