/-! The class's reader and the model as they are made. -/
theorem c36 {σ : Mem} {b : Nat} (h8 : 8 ≤ b) (hn : nxM σ = b + 1) (ht : tkM σ b = (1, 3)) : ∃ σ', DoM 36 [.ref b] σ = some (.inl none, σ') ∧ (tkM σ' b = (1, 3) ∧ prM σ' b 0 = b + 1 ∧ prM σ' b 4 = b + 2 ∧ tkM σ' (b + 1) = (4, 100) ∧ tkM σ' (b + 2) = (2, 5) ∧ rdM σ' b 1 = nQ 0) ∧ nxM σ' = b + 3 ∧ Grw σ σ' b := by
  have e := bM_self hn
  have hb : ¬ b = 0 := by omega
  have hk0 : (fun u => tkM σ (b + u)) 0 = (1, 3) := ht
  generalize (fun u => tkM σ (b + u)) = κ at e hk0
  generalize (fun u => prM σ (b + u)) = P at e
  generalize rw_ σ b = d at e
  have y : DoM 36 [.ref b] (bM 1 σ b κ d P) = _ := (rfl : DoM 36 [.ref b] (bM 1 σ b κ d P) = RuM 36 (0, [some (.ref b)], [], 0, 0) (bM 1 σ b κ d P)).trans (g36_0)
  have i1 : nQ 0 ≤ nQ 32 ∧ nQ 32 < nQ 65536 := by decide
  simp (disch := omega) only [h8, hb, hk0, tk_b0, wr_b0, nw_b, nx_b, wp_b0, uK_s, uK_n, eq_self, Nat.zero_le, not_false_eq_true, true_and, and_true, if_true, Nat.reduceAdd, i1.1, i1.2, rX_s, rX_n, rX_r, g36_9, g36_12, g36_17, g36_22, g36_28, g36_32, g36_35] at y
  rw [e] at y
  refine ⟨_, y, ?_, rfl, Gr_b⟩
  simp (disch := omega) only [h8, tk_b0, tk_b, pr_b0, pr_b, uK_s, uK_n, uP_s, uP_n, uZ_n, hk0, eq_self, true_and, and_true]
  refine (rd_b (u := 0) (by decide) 1).trans ?_
  simp (disch := omega) only [rX_s, rX_n, up_s, up_n]
def s0F : Nat → Int32 := fun i => if i = 1 ∨ i = 2 then nQ 7 else if 281 ≤ i ∧ i < 299 then -1 else nQ 0
section La
variable {n : Nat} {σ : Mem} {b : Nat} {κ : Nat → Nat × Nat} {P : Nat → Nat → Nat}
theorem c104_s (h8 : 8 ≤ b) (hn : 7 ≤ n) (hκ : κ 0 = (1, 5)) (hκ1 : κ 1 = (2, 3213)) (hP : P 0 1 = b + 1) : ∀ (m i : Nat) (d : Nat → Nat → Int32), i + m = 18 → RuM 104 (68, [some (.ref b), some (.int (nQ i))], [], 6, 3384) (bM n σ b κ d P) = RuM 104 (68, [some (.ref b), some (.int (nQ 18))], [], 6, 3384) (bM n σ b κ (rX d 1 (fwD (281 + i) 299 (-1) (d 1))) P) := by
  intro m
  induction m with
  | zero =>
    intro i d hi
    obtain rfl : i = 18 := by omega
    rw [fl_z, rX_i]
  | succ m ih =>
    intro i d hi
    have e := ih (i + 1) (rX d 1 (up (d 1) (281 + i) (-1))) (by omega)
    rw [rX_s, rX_r, show 281 + (i + 1) = 281 + i + 1 by omega, fl_st _ _ _ _ (by omega)] at e
    rw [← e]
    clear e ih
    have h1 : 8 ≤ b + 1 := by omega
    rw [g104_68]
    simp (disch := omega) only [aOk, nQ_lt, nQ_nat, nQ_neg, nQ_add, tk_b0, tk_b, pr_b0, wr_b, hκ, hκ1, hP, h1, if_true, true_and, and_true, not_false_eq_true, eq_self, leF, false_or, show i < 18 by omega, g104_85]
end La
theorem c104n {σ : Mem} {b : Nat} (h8 : 8 ≤ b) (hn : nxM σ = b + 1) (ht : tkM σ b = (1, 5)) (hz : ∀ j, rdM σ b j = 0) : ∃ σ', DoM 104 [.ref b] σ = some (.inl none, σ') ∧ ShM σ' b ∧ rdM σ' (b + 1) = s0F ∧ (∀ i, rdM σ' (b + 2) i = nQ 0) ∧ (∀ j, rdM σ' b j = nQ 0) ∧ nxM σ' = b + 7 ∧ Grw σ σ' b := by
  have e := bM_self hn
  have hb : ¬ b = 0 := by omega
  have hk0 : (fun u => tkM σ (b + u)) 0 = (1, 5) := ht
  have hd0 : rw_ σ b 0 = fun _ => 0 := funext hz
  generalize (fun u => tkM σ (b + u)) = κ at e hk0
  generalize (fun u => prM σ (b + u)) = P at e
  generalize rw_ σ b = d at e hd0
  have h1 : 8 ≤ b + 1 := by omega
  have y : DoM 104 [.ref b] (bM 1 σ b κ d P) = _ := (rfl : DoM 104 [.ref b] (bM 1 σ b κ d P) = RuM 104 (0, [some (.ref b), none], [], 0, 0) (bM 1 σ b κ d P)).trans (g104_0)
  simp (disch := omega) only [aOk, h8, hb, h1, hk0, tk_b, tk_b0, wr_b, wr_b0, nw_b, nx_b, wp_b, wp_b0, pr_b0, uK_s, uK_n, uP_s, uP_n, uZ_n, eq_self, Nat.zero_le, not_false_eq_true, true_and, and_true, if_true, Nat.reduceAdd, Nat.reduceLT, nQ_nat, nQ_neg, leF, false_or, rX_s, rX_n, rX_r, g104_10, g104_13, g104_17, g104_20, g104_25, g104_28, g104_32, g104_35, g104_39, g104_42, g104_47, g104_50, g104_58, g104_66] at y
  rw [c104_s h8 ?hx0 ?hx1 ?hx2 ?hx3 18 0 _ rfl, g104_68] at y
  case hx0 => decide
  case hx1 => simp (disch := omega) only [uK_s, uK_n, hk0]
  case hx2 => simp (disch := omega) only [uK_s, uK_n, hk0]
  case hx3 => simp (disch := omega) only [uP_s, uP_n, uZ_n]
  simp (disch := omega) only [if_false, nQ_lt, Nat.lt_irrefl, rX_s, rX_n, rX_r] at y
  rw [e] at y
  refine ⟨_, y, ?_, ?_, ?_, ?_, rfl, Gr_b⟩
  · unfold ShM
    simp (disch := omega) only [h8, tk_b0, tk_b, pr_b0, pr_b, uK_s, uK_n, uP_s, uP_n, uZ_n, hk0, eq_self, true_and, and_true]
  · funext i
    refine (rd_b (u := 1) (by decide) i).trans ?_
    simp (disch := omega) only [rX_s, rX_n]
    unfold fwD s0F up
    by_cases c1 : i = 1
    · subst c1; rfl
    · by_cases c2 : i = 2
      · subst c2; rfl
      · rw [if_neg (show ¬ (i = 1 ∨ i = 2) by omega)]
        by_cases c3 : 281 ≤ i ∧ i < 299
        · rw [if_pos c3, if_pos (by omega)]
        · rw [if_neg (show ¬ (281 + 0 ≤ i ∧ i < 299) from c3), if_neg c2, if_neg c1]
          exact (if_neg c3).symm
  · intro i
    refine (rd_b (u := 2) (by decide) i).trans ?_
    simp (disch := omega) only [rX_s, rX_n]
    rfl
  · intro j
    refine (rd_b (u := 0) (by decide) j).trans ?_
    simp (disch := omega) only [rX_s, rX_n, hd0]
    rfl
