/-! The class's reader and the model as they are made. -/
theorem c36 {σ : Mem} {b : Nat} (h8 : 8 ≤ b) (hn : nxM σ = b + 1) (ht : tkM σ b = (1, 3)) : ∃ σ', DoM 36 [.ref b] σ = some (.inl none, σ') ∧ (tkM σ' b = (1, 3) ∧ prM σ' b 0 = b + 1 ∧ prM σ' b 4 = b + 2 ∧ tkM σ' (b + 1) = (4, 100) ∧ tkM σ' (b + 2) = (2, 5) ∧ rdM σ' b 1 = nQ 0) ∧ nxM σ' = b + 3 ∧ Grw σ σ' b := by
  have e := bM_self hn
  have hb : ¬ b = 0 := by omega
  have hk0 : (fun u => tkM σ (b + u)) 0 = (1, 3) := ht
  generalize (fun u => tkM σ (b + u)) = κ at e hk0
  generalize (fun u => prM σ (b + u)) = P at e
  generalize rw_ σ b = d at e
  have y : DoM 36 [.ref b] (bM 1 σ b κ d P) = _ := (rfl : DoM 36 [.ref b] (bM 1 σ b κ d P) = RuM 36 (0, [some (.ref b)], [], 0, 0) (bM 1 σ b κ d P)).trans (g36_0)
  have i1 : nQ 0 ≤ nQ 32 ∧ nQ 32 < nQ 65536 := by decide
  simp (disch := omega) only [h8, hb, hk0, tk_b0, wr_b0, nw_b, nx_b, wp_b0, uK_s, uK_n, eq_self, Nat.zero_le, not_false_eq_true, true_and, and_true, if_true, Nat.reduceAdd, i1.1, i1.2, rX_s, rX_n, rX_r, g36_9, g36_12, g36_17, g36_22, g36_28, g36_32, g36_35] at y
  rw [e] at y
  refine ⟨_, y, ?_, rfl, Gr_b⟩
  simp (disch := omega) only [h8, tk_b0, tk_b, pr_b0, pr_b, uK_s, uK_n, uP_s, uP_n, uZ_n, hk0, eq_self, true_and, and_true]
  refine (rd_b (u := 0) (by decide) 1).trans ?_
  simp (disch := omega) only [rX_s, rX_n, up_s, up_n]
def s0F : Nat → Int32 := fun i => if i = 1 ∨ i = 2 then nQ 7 else if 281 ≤ i ∧ i < 299 then -1 else nQ 0
