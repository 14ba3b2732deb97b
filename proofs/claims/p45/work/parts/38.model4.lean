/-! The model's public methods. -/
theorem in_ex {v : Int32} {N : Nat} (h : inP v (nQ 0) (nQ N)) (hN : N < 2147483647) : ∃ n, n ≤ N ∧ v = nQ n := by
  obtain ⟨h1, h2⟩ := h
  rw [Int32.lt_iff_toInt_lt] at h1 h2
  rw [nQ_int (by decide)] at h1
  rw [nQ_int (by omega)] at h2
  refine ⟨v.toInt.toNat, by omega, ?_⟩
  apply Int32.toInt_inj.mp
  rw [nQ_int (by omega)]
  omega
section Mg
variable {σ : Mem} {b : Nat} {d : Nat → Nat → Int32}
/-- the thrown code set -/
abbrev thF (d : Nat → Nat → Int32) (k : Nat) : Nat → Nat → Int32 := rX d 0 (up (d 0) 0 (nQ k))
/-- the state kept behind the thrown code 0 -/
abbrev kdF (d : Nat → Nat → Int32) (c : Nat) : Nat → Nat → Int32 := rX (rX (thF d 0) 0 (up (thF d 0 0) 2 (nQ (if c = 6 then 6 else c + 1)))) 1 (kpF (d 1) c)
theorem fa_no {f : Nat → Int32} {n : Nat} {key v : Int32} (h : FaF f n key v) (hv : v = -1) (h60 : n ≤ 60) : ∀ i, i < n → ¬ f (5 + 4 * i) = key := by
  rcases h with ⟨i, h1, h2, h3⟩ | ⟨-, h⟩
  · rw [hv] at h2
    have := congrArg Int32.toInt h2
    rw [nQ_int (by omega)] at this
    have e : ((-1 : Int32)).toInt = -1 := by decide
    omega
  · exact h
theorem fa_yes {f : Nat → Int32} {n : Nat} {key v : Int32} (h : FaF f n key v) (hv : ¬ v = -1) : ∃ i, i < n ∧ v = nQ i ∧ f (5 + 4 * i) = key := by
  rcases h with h | ⟨h, -⟩
  · exact h
  · exact absurd h hv
end Mg
