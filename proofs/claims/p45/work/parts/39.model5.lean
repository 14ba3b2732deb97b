/-! The model's queries. -/
theorem in_Q {a N : Nat} (h1 : a ≤ N) (h2 : N ≤ 5000) : inP (nQ a) (nQ 0) (nQ N) := ⟨by rw [nQ_lt (by omega) (by omega)]; omega, by rw [nQ_lt (by omega) (by omega)]; omega⟩
theorem rX_0 (d : Nat → Nat → Int32) (f : Nat → Int32) : rX d 0 f 1 = d 1 := rfl
section Mh
variable {σ : Mem} {b : Nat} {d : Nat → Nat → Int32}
end Mh
