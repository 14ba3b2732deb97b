/-! The model's administration. -/
theorem kpL_lo (f : Nat → Int32) {i : Nat} (hi : i < 357) : ∀ k, kpL f k i = f i
  | 0 => rfl
  | k + 1 => by
    show cpK (kpL f k) (k + 2) (k + 1) 357 i = _
    exact (if_neg (by omega)).trans (kpL_lo f hi k)
theorem kp_lo (f : Nat → Int32) (c : Nat) {i : Nat} (hi : i < 357) : kpF f c i = f i := by
  unfold kpF
  split
  · exact (if_neg (by omega)).trans (kpL_lo f hi 5)
  · exact if_neg (by omega)
theorem q20 : (nQ 2 = nQ 0) = False := by rw [nQ_eq (by decide) (by decide)]; simp
section Mi
variable {σ : Mem} {b : Nat} {d : Nat → Nat → Int32}
theorem kd_1 (d : Nat → Nat → Int32) (c : Nat) : kdF d c 1 = kpF (d 1) c := rfl
end Mi
