theorem up_i (f : Nat → Int32) (j : Nat) : up f j (f j) = f := by
  funext i
  by_cases h : i = j
  · rw [h, up_s]
  · rw [up_n h]
theorem up_up (f : Nat → Int32) (j : Nat) (x y : Int32) : up (up f j x) j y = up f j y := by
  funext i
  unfold up
  split <;> rfl
