/-! The model's copies, deletes, moves. -/
def cpK (f : Nat → Int32) (p q k : Nat) : Nat → Int32 := fun i => if 357 * q ≤ i ∧ i < 357 * q + k then f (357 * p + (i - 357 * q)) else f i
theorem cpK_0 (f : Nat → Int32) (p q : Nat) : cpK f p q 0 = f := by
  funext i
  exact if_neg (by omega)
theorem cpK_s (f : Nat → Int32) {p q k : Nat} (hpq : ¬ p = q) (hk : k < 357) : up (cpK f p q k) (357 * q + k) (cpK f p q k (357 * p + k)) = cpK f p q (k + 1) := by
  have e : cpK f p q k (357 * p + k) = f (357 * p + k) := if_neg (by omega)
  funext i
  rw [e]
  by_cases hi : i = 357 * q + k
  · subst hi
    rw [up_s]
    show _ = if _ then _ else _
    rw [if_pos (by omega), Nat.add_sub_cancel_left]
  · rw [up_n hi]
    show (if _ then _ else _) = if _ then _ else _
    by_cases h3 : 357 * q ≤ i ∧ i < 357 * q + k
    · rw [if_pos h3, if_pos (by omega)]
    · rw [if_neg h3, if_neg (by omega)]
abbrev cpF (f : Nat → Int32) (p q : Nat) : Nat → Int32 := cpK f p q 357
def kpL (f : Nat → Int32) : Nat → Nat → Int32
  | 0 => f
  | k + 1 => cpF (kpL f k) (k + 2) (k + 1)
theorem kpL_s (f : Nat → Int32) (k : Nat) : kpL f (k + 1) = cpF (kpL f k) (k + 2) (k + 1) := rfl
def kpF (f : Nat → Int32) (c : Nat) : Nat → Int32 := if c = 6 then cpF (kpL f 5) 0 6 else cpF f 0 (c + 1)
theorem rX_3 (d : Nat → Nat → Int32) (u v : Nat) (f g e : Nat → Int32) : rX (rX (rX d u f) v g) u e = rX (rX d v g) u e := by
  funext a
  by_cases h : a = u <;> by_cases h2 : a = v <;> simp only [rX, h, h2, if_true, if_false]
section Mf
variable {σ : Mem} {b : Nat} {d : Nat → Nat → Int32}
def deK (f : Nat → Int32) (i k : Nat) : Nat → Int32 := fun j => if 5 + 4 * i ≤ j ∧ j < 5 + k then f (j + 4) else f j
theorem deK_0 (f : Nat → Int32) (i : Nat) : deK f i (4 * i) = f := by
  funext j
  exact if_neg (by omega)
theorem deK_s (f : Nat → Int32) {i k : Nat} (hk : 4 * i ≤ k) : up (deK f i k) (5 + k) (deK f i k (5 + k + 4)) = deK f i (k + 1) := by
  have e : deK f i k (5 + k + 4) = f (5 + k + 4) := if_neg (by omega)
  funext j
  rw [e]
  by_cases hj : j = 5 + k
  · subst hj
    rw [up_s]
    exact (if_pos (by omega)).symm
  · rw [up_n hj]
    show (if _ then _ else _) = if _ then _ else _
    by_cases h3 : 5 + 4 * i ≤ j ∧ j < 5 + k
    · rw [if_pos h3, if_pos (by omega)]
    · rw [if_neg h3, if_neg (by omega)]
def deF (f : Nat → Int32) (n i : Nat) : Nat → Int32 := rvA (deK (up f 4 (nQ (n - 1))) i (4 * (n - 1))) (n - 1) 18
def mvF (f : Nat → Int32) (n : Nat) (ri : Nat → Int32) (u g i : Nat) : Nat → Int32 :=
  if raN f n ri u g = 0 then rvA (up (up f (5 + 4 * i + 1) (nQ u)) (5 + 4 * i + 2) (nQ g)) n 18 else rfF f n ri u g
def mrF (f : Nat → Int32) (ri : Nat → Int32) (u g i : Nat) : Nat → Int32 :=
  riF ri (if f (5 + 4 * i + 1) = nQ u then nQ 0 else f (5 + 4 * i + 3)) (if f (5 + 4 * i + 1) = nQ u then nQ 0 else nQ 1) (if f (5 + 4 * i + 2) = nQ g then nQ 0 else f (5 + 4 * i + 3)) (if f (5 + 4 * i + 2) = nQ g then nQ 0 else nQ 1)
end Mf
