/-! Further queries, on both sides. -/
def StN (L : Nat) (xs : Nat → Int32) (c m : Nat) (τ : Mem) : Prop := ∃ v τ1 τ2, DoM c [.ref 8] τ = some (.inl (some (.int v)), τ1) ∧ DoM m [.ref 186] τ1 = some (.inl (some (.int v)), τ2) ∧ EqI τ1 τ2 ∧ RW L xs τ2
theorem fl_to {d : Nat → Nat → Int32} {f : Nat → Int32} {n i : Nat} (hF : FlR d f n) (hi : i < n) : ∃ j, j < n ∧ qM f j = qC d i := Lq_mem.mp (hF.2.2.2.mem_iff.mp (Lq_mem.mpr ⟨i, hi, rfl⟩))
theorem fl_fro {d : Nat → Nat → Int32} {f : Nat → Int32} {n j : Nat} (hF : FlR d f n) (hj : j < n) : ∃ i, i < n ∧ qC d i = qM f j := Lq_mem.mp (hF.2.2.2.mem_iff.mpr (Lq_mem.mpr ⟨j, hj, rfl⟩))
section Qv
variable {L : Nat} {xs : Nat → Int32} {τ : Mem}
theorem StN_Q (h : RW L xs τ) {c m : Nat} {v : Int32} (hc : DoM c [.ref 8] τ = some (.inl (some (.int v)), τ)) (hm : DoM m [.ref 186] (sB 7 τ 186 (rw_ τ 186)) = some (.inl (some (.int v)), sB 7 τ 186 (thF (rw_ τ 186) 0))) : StN L xs c m τ := by
  rw [sB_rw] at hm
  exact ⟨v, τ, _, hc, hm, EqI_s _ _, RW_th h 0⟩

theorem s73 (h : RW L xs τ) : StN L xs 73 173 τ := by
  obtain ⟨n, hR, hF, hI⟩ := RW_n h
  have hM : ShM τ 186 := h.1.1.2.2.2
  have w1 : tkM τ 8 = (1, 4) := h.1.1.1.1
  have w2 : prM τ 8 0 = 9 := h.1.1.1.2.1
  have w0 : tkM τ 193 = (5, 1) := h.1.1.2.2.1.2.2.2.2.2.2.2.2.2
  have hs : ShS τ 9 := h.1.1.2.1.1
  have hc : DoM 73 [.ref 8] τ = some (.inl (some (.int (rdM τ 187 4))), τ) := by
    have e : rdM τ (9 + 8) 0 = rdM τ 187 4 := hF.1.trans hF.2.1.symm
    refine (g73_0).trans ?_
    simp (disch := omega) only [aOk, eq_self, tk_sB, pr_sB, tk_wr, pr_wr, nQ_nat, nQ_neg, nQ_add, nQ_mul, nQ_lt, leF, ltT, ltF, rd_sB, rd_sB0, wr_sB, wr_sB0, cn_l, cn_r, Option.toList, List.cons_append, List.nil_append, if_true, if_false, true_and, and_true, or_false, false_or, true_or, or_true, not_false_eq_true, not_true_eq_false, and_false, false_and, zb_0, zb_1, q10, w1, w2, hs.2.1.1, hs.2.1.2.1, hs.2.1.2.2, hs.2.2.1.1, hs.2.2.1.2.1, hs.2.2.1.2.2.1, hs.2.2.1.2.2.2.1, hs.2.2.1.2.2.2.2.1, hs.2.2.1.2.2.2.2.2.1, hs.2.2.1.2.2.2.2.2.2.1, hs.2.2.1.2.2.2.2.2.2.2.1, hs.2.2.1.2.2.2.2.2.2.2.2, hs.2.2.2.1.1, hs.2.2.2.1.2.1, hs.2.2.2.1.2.2.1, hs.2.2.2.1.2.2.2, hs.2.2.2.2.1.1, hs.2.2.2.2.1.2.1, hs.2.2.2.2.1.2.2, hs.2.2.2.2.2.1.1, hs.2.2.2.2.2.1.2.1, hs.2.2.2.2.2.1.2.2.1, hs.2.2.2.2.2.1.2.2.2.1, hs.2.2.2.2.2.1.2.2.2.2.1, hs.2.2.2.2.2.1.2.2.2.2.2.1, hs.2.2.2.2.2.1.2.2.2.2.2.2, hs.2.2.2.2.2.2.1.1, hs.2.2.2.2.2.2.1.2.1, hs.2.2.2.2.2.2.1.2.2.1, hs.2.2.2.2.2.2.1.2.2.2, hs.2.2.2.2.2.2.2.1, hs.2.2.2.2.2.2.2.2.1, hs.2.2.2.2.2.2.2.2.2, le8 hs.1, e]
  exact StN_Q h hc (m173 hM)
theorem s78 (h : RW L xs τ) : StN L xs 78 180 τ := by
  obtain ⟨n, hR, hF, hI⟩ := RW_n h
  have hM : ShM τ 186 := h.1.1.2.2.2
  have w1 : tkM τ 8 = (1, 4) := h.1.1.1.1
  have w2 : prM τ 8 0 = 9 := h.1.1.1.2.1
  have w0 : tkM τ 193 = (5, 1) := h.1.1.2.2.1.2.2.2.2.2.2.2.2.2
  have hs : ShS τ 9 := h.1.1.2.1.1
  have hc : DoM 78 [.ref 8] τ = some (.inl (some (.int (rdM τ 187 0))), τ) := by
    have e : rdM τ 9 0 = rdM τ 187 0 := hR.1.1
    refine (g78_0).trans ?_
    simp (disch := omega) only [aOk, eq_self, tk_sB, pr_sB, tk_wr, pr_wr, nQ_nat, nQ_neg, nQ_add, nQ_mul, nQ_lt, leF, ltT, ltF, rd_sB, rd_sB0, wr_sB, wr_sB0, cn_l, cn_r, Option.toList, List.cons_append, List.nil_append, if_true, if_false, true_and, and_true, or_false, false_or, true_or, or_true, not_false_eq_true, not_true_eq_false, and_false, false_and, zb_0, zb_1, q10, w1, w2, hs.2.1.1, hs.2.1.2.1, hs.2.1.2.2, hs.2.2.1.1, hs.2.2.1.2.1, hs.2.2.1.2.2.1, hs.2.2.1.2.2.2.1, hs.2.2.1.2.2.2.2.1, hs.2.2.1.2.2.2.2.2.1, hs.2.2.1.2.2.2.2.2.2.1, hs.2.2.1.2.2.2.2.2.2.2.1, hs.2.2.1.2.2.2.2.2.2.2.2, hs.2.2.2.1.1, hs.2.2.2.1.2.1, hs.2.2.2.1.2.2.1, hs.2.2.2.1.2.2.2, hs.2.2.2.2.1.1, hs.2.2.2.2.1.2.1, hs.2.2.2.2.1.2.2, hs.2.2.2.2.2.1.1, hs.2.2.2.2.2.1.2.1, hs.2.2.2.2.2.1.2.2.1, hs.2.2.2.2.2.1.2.2.2.1, hs.2.2.2.2.2.1.2.2.2.2.1, hs.2.2.2.2.2.1.2.2.2.2.2.1, hs.2.2.2.2.2.1.2.2.2.2.2.2, hs.2.2.2.2.2.2.1.1, hs.2.2.2.2.2.2.1.2.1, hs.2.2.2.2.2.2.1.2.2.1, hs.2.2.2.2.2.2.1.2.2.2, hs.2.2.2.2.2.2.2.1, hs.2.2.2.2.2.2.2.2.1, hs.2.2.2.2.2.2.2.2.2, le8 hs.1, e]
  exact StN_Q h hc (m180 hM)
theorem s84 (h : RW L xs τ) : StN L xs 84 187 τ := by
  obtain ⟨n, hR, hF, hI⟩ := RW_n h
  have hM : ShM τ 186 := h.1.1.2.2.2
  have w1 : tkM τ 8 = (1, 4) := h.1.1.1.1
  have w2 : prM τ 8 0 = 9 := h.1.1.1.2.1
  have w0 : tkM τ 193 = (5, 1) := h.1.1.2.2.1.2.2.2.2.2.2.2.2.2
  have hs : ShS τ 9 := h.1.1.2.1.1
  have hc : DoM 84 [.ref 8] τ = some (.inl (some (.int (rdM τ 187 308))), τ) := by
    have e : rdM τ (9 + 13) 0 = rdM τ 187 308 := by
      obtain ⟨q, e, _, _, e0, _, f8, _⟩ := hR.2.2.2
      exact e0.trans f8.symm
    refine (g84_0).trans ?_
    simp (disch := omega) only [aOk, eq_self, tk_sB, pr_sB, tk_wr, pr_wr, nQ_nat, nQ_neg, nQ_add, nQ_mul, nQ_lt, leF, ltT, ltF, rd_sB, rd_sB0, wr_sB, wr_sB0, cn_l, cn_r, Option.toList, List.cons_append, List.nil_append, if_true, if_false, true_and, and_true, or_false, false_or, true_or, or_true, not_false_eq_true, not_true_eq_false, and_false, false_and, zb_0, zb_1, q10, w1, w2, hs.2.1.1, hs.2.1.2.1, hs.2.1.2.2, hs.2.2.1.1, hs.2.2.1.2.1, hs.2.2.1.2.2.1, hs.2.2.1.2.2.2.1, hs.2.2.1.2.2.2.2.1, hs.2.2.1.2.2.2.2.2.1, hs.2.2.1.2.2.2.2.2.2.1, hs.2.2.1.2.2.2.2.2.2.2.1, hs.2.2.1.2.2.2.2.2.2.2.2, hs.2.2.2.1.1, hs.2.2.2.1.2.1, hs.2.2.2.1.2.2.1, hs.2.2.2.1.2.2.2, hs.2.2.2.2.1.1, hs.2.2.2.2.1.2.1, hs.2.2.2.2.1.2.2, hs.2.2.2.2.2.1.1, hs.2.2.2.2.2.1.2.1, hs.2.2.2.2.2.1.2.2.1, hs.2.2.2.2.2.1.2.2.2.1, hs.2.2.2.2.2.1.2.2.2.2.1, hs.2.2.2.2.2.1.2.2.2.2.2.1, hs.2.2.2.2.2.1.2.2.2.2.2.2, hs.2.2.2.2.2.2.1.1, hs.2.2.2.2.2.2.1.2.1, hs.2.2.2.2.2.2.1.2.2.1, hs.2.2.2.2.2.2.1.2.2.2, hs.2.2.2.2.2.2.2.1, hs.2.2.2.2.2.2.2.2.1, hs.2.2.2.2.2.2.2.2.2, le8 hs.1, e]
  exact StN_Q h hc (m187 hM)
theorem s85 (h : RW L xs τ) : StN L xs 85 188 τ := by
  obtain ⟨n, hR, hF, hI⟩ := RW_n h
  have hM : ShM τ 186 := h.1.1.2.2.2
  have w1 : tkM τ 8 = (1, 4) := h.1.1.1.1
  have w2 : prM τ 8 0 = 9 := h.1.1.1.2.1
  have w0 : tkM τ 193 = (5, 1) := h.1.1.2.2.1.2.2.2.2.2.2.2.2.2
  have hs : ShS τ 9 := h.1.1.2.1.1
  have hc : DoM 85 [.ref 8] τ = some (.inl (some (.int (rdM τ 186 2))), τ) := by
    have e : rdM τ 8 3 = rdM τ 186 2 := by
      obtain ⟨π, c, ⟨_, e1, _, e2⟩, _⟩ := h.2.1
      exact e1.trans e2.symm
    refine (g85_0).trans ?_
    simp (disch := omega) only [aOk, eq_self, tk_sB, pr_sB, tk_wr, pr_wr, nQ_nat, nQ_neg, nQ_add, nQ_mul, nQ_lt, leF, ltT, ltF, rd_sB, rd_sB0, wr_sB, wr_sB0, cn_l, cn_r, Option.toList, List.cons_append, List.nil_append, if_true, if_false, true_and, and_true, or_false, false_or, true_or, or_true, not_false_eq_true, not_true_eq_false, and_false, false_and, zb_0, zb_1, q10, w1, e]
  exact StN_Q h hc (m188 hM)
theorem s86 (h : RW L xs τ) : StN L xs 86 189 τ := by
  obtain ⟨n, hR, hF, hI⟩ := RW_n h
  have hM : ShM τ 186 := h.1.1.2.2.2
  have w1 : tkM τ 8 = (1, 4) := h.1.1.1.1
  have w2 : prM τ 8 0 = 9 := h.1.1.1.2.1
  have w0 : tkM τ 193 = (5, 1) := h.1.1.2.2.1.2.2.2.2.2.2.2.2.2
  have hs : ShS τ 9 := h.1.1.2.1.1
  have hc : DoM 86 [.ref 8] τ = some (.inl (some (.int (rdM τ 186 5))), τ) := by
    have e : rdM τ 182 1 = rdM τ 186 5 := by
      obtain ⟨t, N, hT, e1, _⟩ := h.2.2.2
      exact e1.trans hT.1.symm
    have w3 : prM τ 8 6 = 182 := h.1.1.1.2.2.2.2.2.2.1
    have w4 : tkM τ 182 = (1, 3) := h.1.1.2.2.1.2.2.2.1
    refine (g86_0).trans ?_
    simp (disch := omega) only [aOk, eq_self, tk_sB, pr_sB, tk_wr, pr_wr, nQ_nat, nQ_neg, nQ_add, nQ_mul, nQ_lt, leF, ltT, ltF, rd_sB, rd_sB0, wr_sB, wr_sB0, cn_l, cn_r, Option.toList, List.cons_append, List.nil_append, if_true, if_false, true_and, and_true, or_false, false_or, true_or, or_true, not_false_eq_true, not_true_eq_false, and_false, false_and, zb_0, zb_1, q10, w1, w3, w4, e]
  exact StN_Q h hc (m189 hM)
theorem s81 (h : RW L xs τ) : StN L xs 81 184 τ := by
  obtain ⟨n, hR, hF, hI⟩ := RW_n h
  have hM : ShM τ 186 := h.1.1.2.2.2
  have w1 : tkM τ 8 = (1, 4) := h.1.1.1.1
  have w2 : prM τ 8 0 = 9 := h.1.1.1.2.1
  have w0 : tkM τ 193 = (5, 1) := h.1.1.2.2.1.2.2.2.2.2.2.2.2.2
  have hs : ShS τ 9 := h.1.1.2.1.1
  have hc : DoM 81 [.ref 8] τ = some (.inl (some (.int (nQ (gcN (rdM τ 187) false 18)))), τ) := by
    have Lp : ∀ (m i : Nat), i + m = 18 → RuM 81 (4, [some (.ref 8), some (.int (nQ (gcN (rdM τ 187) false i))), some (.int (nQ i))], [], 0, 0) τ = some (.inl (some (.int (nQ (gcN (rdM τ 187) false 18)))), τ) := by
      intro m
      induction m with
      | zero =>
        intro i e
        obtain rfl : i = 18 := e
        rw [g81_4]
        simp (disch := omega) only [aOk, eq_self, tk_sB, pr_sB, tk_wr, pr_wr, nQ_nat, nQ_neg, nQ_add, nQ_mul, nQ_lt, leF, ltT, ltF, rd_sB, rd_sB0, wr_sB, wr_sB0, cn_l, cn_r, Option.toList, List.cons_append, List.nil_append, if_true, if_false, true_and, and_true, or_false, false_or, true_or, or_true, not_false_eq_true, not_true_eq_false, and_false, false_and, zb_0, zb_1, q10]
      | succ m ih =>
        intro i e
        have hi : i < 18 := by omega
        have ih' := ih (i + 1) (by omega)
        rw [gc_s] at ih'
        have r29 := c29 (d := rw_ τ 9) hs hR hi
        have r31 := c31 (d := rw_ τ 9) hs hR hi
        rw [sB_rw] at r29 r31
        rw [g81_4]
        by_cases c1 : rdM τ 187 (281 + i) = -1 <;> simp (disch := omega) only [aOk, eq_self, tk_sB, pr_sB, tk_wr, pr_wr, nQ_nat, nQ_neg, nQ_add, nQ_mul, nQ_lt, leF, ltT, ltF, rd_sB, rd_sB0, wr_sB, wr_sB0, cn_l, cn_r, Option.toList, List.cons_append, List.nil_append, if_true, if_false, true_and, and_true, or_false, false_or, true_or, or_true, not_false_eq_true, not_true_eq_false, and_false, false_and, zb_0, zb_1, q10, w1, w2, hs.2.1.1, hs.2.1.2.1, hs.2.1.2.2, hs.2.2.1.1, hs.2.2.1.2.1, hs.2.2.1.2.2.1, hs.2.2.1.2.2.2.1, hs.2.2.1.2.2.2.2.1, hs.2.2.1.2.2.2.2.2.1, hs.2.2.1.2.2.2.2.2.2.1, hs.2.2.1.2.2.2.2.2.2.2.1, hs.2.2.1.2.2.2.2.2.2.2.2, hs.2.2.2.1.1, hs.2.2.2.1.2.1, hs.2.2.2.1.2.2.1, hs.2.2.2.1.2.2.2, hs.2.2.2.2.1.1, hs.2.2.2.2.1.2.1, hs.2.2.2.2.1.2.2, hs.2.2.2.2.2.1.1, hs.2.2.2.2.2.1.2.1, hs.2.2.2.2.2.1.2.2.1, hs.2.2.2.2.2.1.2.2.2.1, hs.2.2.2.2.2.1.2.2.2.2.1, hs.2.2.2.2.2.1.2.2.2.2.2.1, hs.2.2.2.2.2.1.2.2.2.2.2.2, hs.2.2.2.2.2.2.1.1, hs.2.2.2.2.2.2.1.2.1, hs.2.2.2.2.2.2.1.2.2.1, hs.2.2.2.2.2.2.1.2.2.2, hs.2.2.2.2.2.2.2.1, hs.2.2.2.2.2.2.2.2.1, hs.2.2.2.2.2.2.2.2.2, le8 hs.1, r29, c1, gcP, Bool.false_eq_true, q10, g81_18, g81_24] at ih' ⊢ <;> exact ih'
    exact (g81_0).trans (Lp 18 0 rfl)
  exact StN_Q h hc (m184 hM)
theorem s82 (h : RW L xs τ) : StN L xs 82 185 τ := by
  obtain ⟨n, hR, hF, hI⟩ := RW_n h
  have hM : ShM τ 186 := h.1.1.2.2.2
  have w1 : tkM τ 8 = (1, 4) := h.1.1.1.1
  have w2 : prM τ 8 0 = 9 := h.1.1.1.2.1
  have w0 : tkM τ 193 = (5, 1) := h.1.1.2.2.1.2.2.2.2.2.2.2.2.2
  have hs : ShS τ 9 := h.1.1.2.1.1
  have hc : DoM 82 [.ref 8] τ = some (.inl (some (.int (nQ (gcN (rdM τ 187) true 18)))), τ) := by
    have Lp : ∀ (m i : Nat), i + m = 18 → RuM 82 (4, [some (.ref 8), some (.int (nQ (gcN (rdM τ 187) true i))), some (.int (nQ i))], [], 0, 0) τ = some (.inl (some (.int (nQ (gcN (rdM τ 187) true 18)))), τ) := by
      intro m
      induction m with
      | zero =>
        intro i e
        obtain rfl : i = 18 := e
        rw [g82_4]
        simp (disch := omega) only [aOk, eq_self, tk_sB, pr_sB, tk_wr, pr_wr, nQ_nat, nQ_neg, nQ_add, nQ_mul, nQ_lt, leF, ltT, ltF, rd_sB, rd_sB0, wr_sB, wr_sB0, cn_l, cn_r, Option.toList, List.cons_append, List.nil_append, if_true, if_false, true_and, and_true, or_false, false_or, true_or, or_true, not_false_eq_true, not_true_eq_false, and_false, false_and, zb_0, zb_1, q10]
      | succ m ih =>
        intro i e
        have hi : i < 18 := by omega
        have ih' := ih (i + 1) (by omega)
        rw [gc_s] at ih'
        have r29 := c29 (d := rw_ τ 9) hs hR hi
        have r31 := c31 (d := rw_ τ 9) hs hR hi
        rw [sB_rw] at r29 r31
        rw [g82_4]
        rcases Classical.propComplete (ovF (rdM τ 187) (rdM τ 187 (281 + i)) (rdM τ 187 0) (i - i / 2 * 2)) with c1 | c1 <;> simp (disch := omega) only [aOk, eq_self, tk_sB, pr_sB, tk_wr, pr_wr, nQ_nat, nQ_neg, nQ_add, nQ_mul, nQ_lt, leF, ltT, ltF, rd_sB, rd_sB0, wr_sB, wr_sB0, cn_l, cn_r, Option.toList, List.cons_append, List.nil_append, if_true, if_false, true_and, and_true, or_false, false_or, true_or, or_true, not_false_eq_true, not_true_eq_false, and_false, false_and, zb_0, zb_1, q10, w1, w2, hs.2.1.1, hs.2.1.2.1, hs.2.1.2.2, hs.2.2.1.1, hs.2.2.1.2.1, hs.2.2.1.2.2.1, hs.2.2.1.2.2.2.1, hs.2.2.1.2.2.2.2.1, hs.2.2.1.2.2.2.2.2.1, hs.2.2.1.2.2.2.2.2.2.1, hs.2.2.1.2.2.2.2.2.2.2.1, hs.2.2.1.2.2.2.2.2.2.2.2, hs.2.2.2.1.1, hs.2.2.2.1.2.1, hs.2.2.2.1.2.2.1, hs.2.2.2.1.2.2.2, hs.2.2.2.2.1.1, hs.2.2.2.2.1.2.1, hs.2.2.2.2.1.2.2, hs.2.2.2.2.2.1.1, hs.2.2.2.2.2.1.2.1, hs.2.2.2.2.2.1.2.2.1, hs.2.2.2.2.2.1.2.2.2.1, hs.2.2.2.2.2.1.2.2.2.2.1, hs.2.2.2.2.2.1.2.2.2.2.2.1, hs.2.2.2.2.2.1.2.2.2.2.2.2, hs.2.2.2.2.2.2.1.1, hs.2.2.2.2.2.2.1.2.1, hs.2.2.2.2.2.2.1.2.2.1, hs.2.2.2.2.2.2.1.2.2.2, hs.2.2.2.2.2.2.2.1, hs.2.2.2.2.2.2.2.2.1, hs.2.2.2.2.2.2.2.2.2, le8 hs.1, r31, c1, gcP, Bool.false_eq_true, q10, g82_18, g82_24] at ih' ⊢ <;> exact ih'
    exact (g82_0).trans (Lp 18 0 rfl)
  exact StN_Q h hc (m185 hM)
theorem s68 (h : RW L xs τ) (v : Int32) : StW L xs 211 164 [.int v] τ := by
  obtain ⟨n, hR, hF, hI⟩ := RW_n h
  have hM : ShM τ 186 := h.1.1.2.2.2
  have w1 : tkM τ 8 = (1, 4) := h.1.1.1.1
  have w2 : prM τ 8 0 = 9 := h.1.1.1.2.1
  have w0 : tkM τ 193 = (5, 1) := h.1.1.2.2.1.2.2.2.2.2.2.2.2.2
  have hs : ShS τ 9 := h.1.1.2.1.1
  by_cases hx : inP v (nQ 0) (nQ 8)
  · obtain ⟨a, ha, rfl⟩ := in_ex hx (by decide)
    have hc : DoM 68 [.ref 8, .int (nQ a)] τ = some (.inl (some (.int (rdM τ 187 (299 + a)))), τ) := by
      have e : rdM τ (9 + 7) a = rdM τ 187 (299 + a) := hR.2.2.1 a (by omega)
      refine (g68_0).trans ?_
      simp (disch := omega) only [aOk, eq_self, tk_sB, pr_sB, tk_wr, pr_wr, nQ_nat, nQ_neg, nQ_add, nQ_mul, nQ_lt, leF, ltT, ltF, rd_sB, rd_sB0, wr_sB, wr_sB0, cn_l, cn_r, Option.toList, List.cons_append, List.nil_append, if_true, if_false, true_and, and_true, or_false, false_or, true_or, or_true, not_false_eq_true, not_true_eq_false, and_false, false_and, zb_0, zb_1, q10, w1, w2, hs.2.1.1, hs.2.1.2.1, hs.2.1.2.2, hs.2.2.1.1, hs.2.2.1.2.1, hs.2.2.1.2.2.1, hs.2.2.1.2.2.2.1, hs.2.2.1.2.2.2.2.1, hs.2.2.1.2.2.2.2.2.1, hs.2.2.1.2.2.2.2.2.2.1, hs.2.2.1.2.2.2.2.2.2.2.1, hs.2.2.1.2.2.2.2.2.2.2.2, hs.2.2.2.1.1, hs.2.2.2.1.2.1, hs.2.2.2.1.2.2.1, hs.2.2.2.1.2.2.2, hs.2.2.2.2.1.1, hs.2.2.2.2.1.2.1, hs.2.2.2.2.1.2.2, hs.2.2.2.2.2.1.1, hs.2.2.2.2.2.1.2.1, hs.2.2.2.2.2.1.2.2.1, hs.2.2.2.2.2.1.2.2.2.1, hs.2.2.2.2.2.1.2.2.2.2.1, hs.2.2.2.2.2.1.2.2.2.2.2.1, hs.2.2.2.2.2.1.2.2.2.2.2.2, hs.2.2.2.2.2.2.1.1, hs.2.2.2.2.2.2.1.2.1, hs.2.2.2.2.2.2.1.2.2.1, hs.2.2.2.2.2.2.1.2.2.2, hs.2.2.2.2.2.2.2.1, hs.2.2.2.2.2.2.2.2.1, hs.2.2.2.2.2.2.2.2.2, le8 hs.1, c89, eq_true hx, e, g68_4]
    exact StW_Q h (Cl_rfl τ) (w211_r w1 w0 hc) (m164_0 (σ := wrM τ 193 0 _) (d := rw_ τ 186) hM (by omega)) (Md_th _) rfl
  · refine StW_E h (k := 1) (by decide) (by decide) (w211_E1 w1 ?_) (m164_1 hM hx)
    refine (g68_0).trans ?_
    simp only [c89, eq_false hx, if_false, cn_r]
theorem s79 (h : RW L xs τ) (v : Int32) : StW L xs 220 181 [.int v] τ := by
  obtain ⟨n, hR, hF, hI⟩ := RW_n h
  have hM : ShM τ 186 := h.1.1.2.2.2
  have w1 : tkM τ 8 = (1, 4) := h.1.1.1.1
  have w2 : prM τ 8 0 = 9 := h.1.1.1.2.1
  have w0 : tkM τ 193 = (5, 1) := h.1.1.2.2.1.2.2.2.2.2.2.2.2.2
  have hs : ShS τ 9 := h.1.1.2.1.1
  by_cases hx : inP v (nQ 0) (nQ 1)
  · obtain ⟨a, ha, rfl⟩ := in_ex hx (by decide)
    have hc : DoM 79 [.ref 8, .int (nQ a)] τ = some (.inl (some (.int (rdM τ 187 (1 + a)))), τ) := by
      have e : rdM τ (9 + 1) a = rdM τ 187 (1 + a) := hR.1.2.1 a (by omega)
      refine (g79_0).trans ?_
      simp (disch := omega) only [aOk, eq_self, tk_sB, pr_sB, tk_wr, pr_wr, nQ_nat, nQ_neg, nQ_add, nQ_mul, nQ_lt, leF, ltT, ltF, rd_sB, rd_sB0, wr_sB, wr_sB0, cn_l, cn_r, Option.toList, List.cons_append, List.nil_append, if_true, if_false, true_and, and_true, or_false, false_or, true_or, or_true, not_false_eq_true, not_true_eq_false, and_false, false_and, zb_0, zb_1, q10, w1, w2, hs.2.1.1, hs.2.1.2.1, hs.2.1.2.2, hs.2.2.1.1, hs.2.2.1.2.1, hs.2.2.1.2.2.1, hs.2.2.1.2.2.2.1, hs.2.2.1.2.2.2.2.1, hs.2.2.1.2.2.2.2.2.1, hs.2.2.1.2.2.2.2.2.2.1, hs.2.2.1.2.2.2.2.2.2.2.1, hs.2.2.1.2.2.2.2.2.2.2.2, hs.2.2.2.1.1, hs.2.2.2.1.2.1, hs.2.2.2.1.2.2.1, hs.2.2.2.1.2.2.2, hs.2.2.2.2.1.1, hs.2.2.2.2.1.2.1, hs.2.2.2.2.1.2.2, hs.2.2.2.2.2.1.1, hs.2.2.2.2.2.1.2.1, hs.2.2.2.2.2.1.2.2.1, hs.2.2.2.2.2.1.2.2.2.1, hs.2.2.2.2.2.1.2.2.2.2.1, hs.2.2.2.2.2.1.2.2.2.2.2.1, hs.2.2.2.2.2.1.2.2.2.2.2.2, hs.2.2.2.2.2.2.1.1, hs.2.2.2.2.2.2.1.2.1, hs.2.2.2.2.2.2.1.2.2.1, hs.2.2.2.2.2.2.1.2.2.2, hs.2.2.2.2.2.2.2.1, hs.2.2.2.2.2.2.2.2.1, hs.2.2.2.2.2.2.2.2.2, le8 hs.1, c90, eq_true hx, e, g79_4]
    exact StW_Q h (Cl_rfl τ) (w220_r w1 w0 hc) (m181_0 (σ := wrM τ 193 0 _) (d := rw_ τ 186) hM (by omega)) (Md_th _) rfl
  · refine StW_E h (k := 1) (by decide) (by decide) (w220_E1 w1 ?_) (m181_1 hM hx)
    refine (g79_0).trans ?_
    simp only [c90, eq_false hx, if_false, cn_r]
theorem s80 (h : RW L xs τ) (v : Int32) : StW L xs 221 182 [.int v] τ := by
  obtain ⟨n, hR, hF, hI⟩ := RW_n h
  have hM : ShM τ 186 := h.1.1.2.2.2
  have w1 : tkM τ 8 = (1, 4) := h.1.1.1.1
  have w2 : prM τ 8 0 = 9 := h.1.1.1.2.1
  have w0 : tkM τ 193 = (5, 1) := h.1.1.2.2.1.2.2.2.2.2.2.2.2.2
  have hs : ShS τ 9 := h.1.1.2.1.1
  by_cases hx : inP v (nQ 0) (nQ 5)
  · obtain ⟨a, ha, rfl⟩ := in_ex hx (by decide)
    have hc : DoM 80 [.ref 8, .int (nQ a)] τ = some (.inl (some (.int (if frF (rdM τ 187) a then nQ 1 else nQ 0))), τ) := by
      have e : rdM τ (9 + 2) a = if frF (rdM τ 187) a then nQ 1 else nQ 0 := hR.1.2.2 a (by omega)
      refine (g80_0).trans ?_
      rcases Classical.propComplete (frF (rdM τ 187) a) with c1 | c1 <;> simp (disch := omega) only [aOk, eq_self, tk_sB, pr_sB, tk_wr, pr_wr, nQ_nat, nQ_neg, nQ_add, nQ_mul, nQ_lt, leF, ltT, ltF, rd_sB, rd_sB0, wr_sB, wr_sB0, cn_l, cn_r, Option.toList, List.cons_append, List.nil_append, if_true, if_false, true_and, and_true, or_false, false_or, true_or, or_true, not_false_eq_true, not_true_eq_false, and_false, false_and, zb_0, zb_1, q10, w1, w2, hs.2.1.1, hs.2.1.2.1, hs.2.1.2.2, hs.2.2.1.1, hs.2.2.1.2.1, hs.2.2.1.2.2.1, hs.2.2.1.2.2.2.1, hs.2.2.1.2.2.2.2.1, hs.2.2.1.2.2.2.2.2.1, hs.2.2.1.2.2.2.2.2.2.1, hs.2.2.1.2.2.2.2.2.2.2.1, hs.2.2.1.2.2.2.2.2.2.2.2, hs.2.2.2.1.1, hs.2.2.2.1.2.1, hs.2.2.2.1.2.2.1, hs.2.2.2.1.2.2.2, hs.2.2.2.2.1.1, hs.2.2.2.2.1.2.1, hs.2.2.2.2.1.2.2, hs.2.2.2.2.2.1.1, hs.2.2.2.2.2.1.2.1, hs.2.2.2.2.2.1.2.2.1, hs.2.2.2.2.2.1.2.2.2.1, hs.2.2.2.2.2.1.2.2.2.2.1, hs.2.2.2.2.2.1.2.2.2.2.2.1, hs.2.2.2.2.2.1.2.2.2.2.2.2, hs.2.2.2.2.2.2.1.1, hs.2.2.2.2.2.2.1.2.1, hs.2.2.2.2.2.2.1.2.2.1, hs.2.2.2.2.2.2.1.2.2.2, hs.2.2.2.2.2.2.2.1, hs.2.2.2.2.2.2.2.2.1, hs.2.2.2.2.2.2.2.2.2, le8 hs.1, c87, eq_true hx, e, c1, g80_4]
    exact StW_Q h (Cl_rfl τ) (w221_r w1 w0 (by split <;> first | exact Or.inr rfl | exact Or.inl rfl) hc) (m182_0 (σ := wrM τ 193 0 _) (d := rw_ τ 186) hM (by omega)) (Md_th _) rfl
  · refine StW_E h (k := 1) (by decide) (by decide) (w221_E1 w1 ?_) (m182_1 hM hx)
    refine (g80_0).trans ?_
    simp only [c87, eq_false hx, if_false, cn_r]
theorem s74 (h : RW L xs τ) (v : Int32) : StW L xs 216 174 [.int v] τ := by
  obtain ⟨n, hR, hF, hI⟩ := RW_n h
  have hM : ShM τ 186 := h.1.1.2.2.2
  have w1 : tkM τ 8 = (1, 4) := h.1.1.1.1
  have w2 : prM τ 8 0 = 9 := h.1.1.1.2.1
  have w0 : tkM τ 193 = (5, 1) := h.1.1.2.2.1.2.2.2.2.2.2.2.2.2
  have hs : ShS τ 9 := h.1.1.2.1.1
  by_cases hx : inP v (nQ 0) (nQ 9)
  · obtain ⟨a, ha, rfl⟩ := in_ex hx (by decide)
    have hc : DoM 74 [.ref 8, .int (nQ a)] τ = some (.inl (some (.int (dzF (rdM τ 187) (nQ a) n))), τ) := by
      have e := c12 (d := rw_ τ 9) hs hF.1 hF.2.2.1 (nQ a)
      rw [sB_rw, sm_perm _ hF.2.2.2, ← dz_sm] at e
      refine (g74_0).trans ?_
      simp (disch := omega) only [aOk, eq_self, tk_sB, pr_sB, tk_wr, pr_wr, nQ_nat, nQ_neg, nQ_add, nQ_mul, nQ_lt, leF, ltT, ltF, rd_sB, rd_sB0, wr_sB, wr_sB0, cn_l, cn_r, Option.toList, List.cons_append, List.nil_append, if_true, if_false, true_and, and_true, or_false, false_or, true_or, or_true, not_false_eq_true, not_true_eq_false, and_false, false_and, zb_0, zb_1, q10, w1, w2, hs.2.1.1, hs.2.1.2.1, hs.2.1.2.2, hs.2.2.1.1, hs.2.2.1.2.1, hs.2.2.1.2.2.1, hs.2.2.1.2.2.2.1, hs.2.2.1.2.2.2.2.1, hs.2.2.1.2.2.2.2.2.1, hs.2.2.1.2.2.2.2.2.2.1, hs.2.2.1.2.2.2.2.2.2.2.1, hs.2.2.1.2.2.2.2.2.2.2.2, hs.2.2.2.1.1, hs.2.2.2.1.2.1, hs.2.2.2.1.2.2.1, hs.2.2.2.1.2.2.2, hs.2.2.2.2.1.1, hs.2.2.2.2.1.2.1, hs.2.2.2.2.1.2.2, hs.2.2.2.2.2.1.1, hs.2.2.2.2.2.1.2.1, hs.2.2.2.2.2.1.2.2.1, hs.2.2.2.2.2.1.2.2.2.1, hs.2.2.2.2.2.1.2.2.2.2.1, hs.2.2.2.2.2.1.2.2.2.2.2.1, hs.2.2.2.2.2.1.2.2.2.2.2.2, hs.2.2.2.2.2.2.1.1, hs.2.2.2.2.2.2.1.2.1, hs.2.2.2.2.2.2.1.2.2.1, hs.2.2.2.2.2.2.1.2.2.2, hs.2.2.2.2.2.2.2.1, hs.2.2.2.2.2.2.2.2.1, hs.2.2.2.2.2.2.2.2.2, le8 hs.1, c92, eq_true hx, e, g74_4, g74_15]
    exact StW_Q h (Cl_rfl τ) (w216_r w1 w0 hc) (m174_0 (σ := wrM τ 193 0 _) (d := rw_ τ 186) hM hF.2.1 hF.2.2.1 hx) (Md_th _) rfl
  · refine StW_E h (k := 1) (by decide) (by decide) (w216_E1 w1 ?_) (m174_1 hM hx)
    refine (g74_0).trans ?_
    simp only [c92, eq_false hx, if_false, cn_r]
theorem s70 (h : RW L xs τ) (v w : Int32) : StW L xs 213 170 [.int v, .int w] τ := by
  obtain ⟨n, hR, hF, hI⟩ := RW_n h
  have hM : ShM τ 186 := h.1.1.2.2.2
  have w1 : tkM τ 8 = (1, 4) := h.1.1.1.1
  have w2 : prM τ 8 0 = 9 := h.1.1.1.2.1
  have w0 : tkM τ 193 = (5, 1) := h.1.1.2.2.1.2.2.2.2.2.2.2.2.2
  have hs : ShS τ 9 := h.1.1.2.1.1
  by_cases hx : inP v (nQ 0) (nQ 9) ∧ inP w (nQ 0) (nQ 99)
  · obtain ⟨y, e6, hy⟩ := c6 (d := rw_ τ 9) hs hF.1 hF.2.2.1 (nQ 100 * v + w)
    rw [sB_rw] at e6
    obtain ⟨z, -, hz⟩ := m170_0 (σ := wrM τ 193 0 0) (d := rw_ τ 186) hM hF.2.1 hF.2.2.1 hx
    have hc : DoM 70 [.ref 8, .int v, .int w] τ = some (.inl (some (.int z)), τ) := by
      refine (g70_0).trans ?_
      rcases hy with ⟨i, hi, rfl, hk⟩ | ⟨rfl, hk⟩
      · have ej := nQ_m1 (i := i) (by have := hF.2.2.1; omega)
        have hi60 : i < 60 := by have := hF.2.2.1; omega
        have e : rdM τ (9 + 12) i = z := by
          rcases hz with ⟨j, hj, rfl, hk2⟩ | ⟨rfl, hk2⟩
          · exact congrArg (·.2.2.2) (fl_at hF hI.1.2.1 hi hj (hk.trans hk2.symm))
          · obtain ⟨j, hj, e⟩ := fl_to hF hi
            exact absurd ((congrArg (·.1) e).trans hk) (hk2 j hj)
        simp (disch := omega) only [aOk, eq_self, tk_sB, pr_sB, tk_wr, pr_wr, nQ_nat, nQ_neg, nQ_add, nQ_mul, nQ_lt, leF, ltT, ltF, rd_sB, rd_sB0, wr_sB, wr_sB0, cn_l, cn_r, Option.toList, List.cons_append, List.nil_append, if_true, if_false, true_and, and_true, or_false, false_or, true_or, or_true, not_false_eq_true, not_true_eq_false, and_false, false_and, zb_0, zb_1, q10, w1, w2, hs.2.1.1, hs.2.1.2.1, hs.2.1.2.2, hs.2.2.1.1, hs.2.2.1.2.1, hs.2.2.1.2.2.1, hs.2.2.1.2.2.2.1, hs.2.2.1.2.2.2.2.1, hs.2.2.1.2.2.2.2.2.1, hs.2.2.1.2.2.2.2.2.2.1, hs.2.2.1.2.2.2.2.2.2.2.1, hs.2.2.1.2.2.2.2.2.2.2.2, hs.2.2.2.1.1, hs.2.2.2.1.2.1, hs.2.2.2.1.2.2.1, hs.2.2.2.1.2.2.2, hs.2.2.2.2.1.1, hs.2.2.2.2.1.2.1, hs.2.2.2.2.1.2.2, hs.2.2.2.2.2.1.1, hs.2.2.2.2.2.1.2.1, hs.2.2.2.2.2.1.2.2.1, hs.2.2.2.2.2.1.2.2.2.1, hs.2.2.2.2.2.1.2.2.2.2.1, hs.2.2.2.2.2.1.2.2.2.2.2.1, hs.2.2.2.2.2.1.2.2.2.2.2.2, hs.2.2.2.2.2.2.1.1, hs.2.2.2.2.2.2.1.2.1, hs.2.2.2.2.2.2.1.2.2.1, hs.2.2.2.2.2.2.1.2.2.2, hs.2.2.2.2.2.2.2.1, hs.2.2.2.2.2.2.2.2.1, hs.2.2.2.2.2.2.2.2.2, le8 hs.1, c93, eq_true hx, e6, ej, e, g70_12, g70_15, g70_37]
      · have e : z = -1 := by
          rcases hz with ⟨j, hj, rfl, hk2⟩ | ⟨rfl, hk2⟩
          · obtain ⟨i, hi, e⟩ := fl_fro hF hj
            exact absurd ((congrArg (·.1) e).trans hk2) (hk i hi)
          · rfl
        simp (disch := omega) only [aOk, eq_self, tk_sB, pr_sB, tk_wr, pr_wr, nQ_nat, nQ_neg, nQ_add, nQ_mul, nQ_lt, leF, ltT, ltF, rd_sB, rd_sB0, wr_sB, wr_sB0, cn_l, cn_r, Option.toList, List.cons_append, List.nil_append, if_true, if_false, true_and, and_true, or_false, false_or, true_or, or_true, not_false_eq_true, not_true_eq_false, and_false, false_and, zb_0, zb_1, q10, w1, w2, hs.2.1.1, hs.2.1.2.1, hs.2.1.2.2, hs.2.2.1.1, hs.2.2.1.2.1, hs.2.2.1.2.2.1, hs.2.2.1.2.2.2.1, hs.2.2.1.2.2.2.2.1, hs.2.2.1.2.2.2.2.2.1, hs.2.2.1.2.2.2.2.2.2.1, hs.2.2.1.2.2.2.2.2.2.2.1, hs.2.2.1.2.2.2.2.2.2.2.2, hs.2.2.2.1.1, hs.2.2.2.1.2.1, hs.2.2.2.1.2.2.1, hs.2.2.2.1.2.2.2, hs.2.2.2.2.1.1, hs.2.2.2.2.1.2.1, hs.2.2.2.2.1.2.2, hs.2.2.2.2.2.1.1, hs.2.2.2.2.2.1.2.1, hs.2.2.2.2.2.1.2.2.1, hs.2.2.2.2.2.1.2.2.2.1, hs.2.2.2.2.2.1.2.2.2.2.1, hs.2.2.2.2.2.1.2.2.2.2.2.1, hs.2.2.2.2.2.1.2.2.2.2.2.2, hs.2.2.2.2.2.2.1.1, hs.2.2.2.2.2.2.1.2.1, hs.2.2.2.2.2.2.1.2.2.1, hs.2.2.2.2.2.2.1.2.2.2, hs.2.2.2.2.2.2.2.1, hs.2.2.2.2.2.2.2.2.1, hs.2.2.2.2.2.2.2.2.2, le8 hs.1, c93, eq_true hx, e6, e, g70_12, g70_15, g70_37]
    obtain ⟨z', e', hz'⟩ := m170_0 (σ := wrM τ 193 0 z) (d := rw_ τ 186) hM hF.2.1 hF.2.2.1 hx
    have : z' = z := by
      rcases hz with ⟨j, hj, rfl, hk2⟩ | ⟨rfl, hk2⟩ <;> rcases hz' with ⟨j', hj', rfl, hk3⟩ | ⟨rfl, hk3⟩
      · rw [hI.1.2.1 j' j hj' hj (hk3.trans hk2.symm)]
      · exact absurd hk2 (hk3 j hj)
      · exact absurd hk3 (hk2 j' hj')
      · rfl
    rw [this] at e'
    exact StW_Q h (Cl_rfl τ) (w213_r w1 w0 hc) e' (Md_th _) rfl
  · refine StW_E h (k := 1) (by decide) (by decide) (w213_E1 w1 ?_) (m170_1 hM hx)
    refine (g70_0).trans ?_
    simp only [w1, w2, hs.2.1.1, hs.2.1.2.1, hs.2.1.2.2, hs.2.2.1.1, hs.2.2.1.2.1, hs.2.2.1.2.2.1, hs.2.2.1.2.2.2.1, hs.2.2.1.2.2.2.2.1, hs.2.2.1.2.2.2.2.2.1, hs.2.2.1.2.2.2.2.2.2.1, hs.2.2.1.2.2.2.2.2.2.2.1, hs.2.2.1.2.2.2.2.2.2.2.2, hs.2.2.2.1.1, hs.2.2.2.1.2.1, hs.2.2.2.1.2.2.1, hs.2.2.2.1.2.2.2, hs.2.2.2.2.1.1, hs.2.2.2.2.1.2.1, hs.2.2.2.2.1.2.2, hs.2.2.2.2.2.1.1, hs.2.2.2.2.2.1.2.1, hs.2.2.2.2.2.1.2.2.1, hs.2.2.2.2.2.1.2.2.2.1, hs.2.2.2.2.2.1.2.2.2.2.1, hs.2.2.2.2.2.1.2.2.2.2.2.1, hs.2.2.2.2.2.1.2.2.2.2.2.2, hs.2.2.2.2.2.2.1.1, hs.2.2.2.2.2.2.1.2.1, hs.2.2.2.2.2.2.1.2.2.1, hs.2.2.2.2.2.2.1.2.2.2, hs.2.2.2.2.2.2.2.1, hs.2.2.2.2.2.2.2.2.1, hs.2.2.2.2.2.2.2.2.2, le8 hs.1, if_true, c93, eq_false hx, if_false, cn_r]
theorem s71 (h : RW L xs τ) (v w : Int32) : StW L xs 214 171 [.int v, .int w] τ := by
  obtain ⟨n, hR, hF, hI⟩ := RW_n h
  have hM : ShM τ 186 := h.1.1.2.2.2
  have w1 : tkM τ 8 = (1, 4) := h.1.1.1.1
  have w2 : prM τ 8 0 = 9 := h.1.1.1.2.1
  have w0 : tkM τ 193 = (5, 1) := h.1.1.2.2.1.2.2.2.2.2.2.2.2.2
  have hs : ShS τ 9 := h.1.1.2.1.1
  by_cases hx : inP v (nQ 0) (nQ 9) ∧ inP w (nQ 0) (nQ 99)
  · obtain ⟨y, e6, hy⟩ := c6 (d := rw_ τ 9) hs hF.1 hF.2.2.1 (nQ 100 * v + w)
    rw [sB_rw] at e6
    obtain ⟨z, -, hz⟩ := m171_0 (σ := wrM τ 193 0 0) (d := rw_ τ 186) hM hF.2.1 hF.2.2.1 hx
    have hc : DoM 71 [.ref 8, .int v, .int w] τ = some (.inl (some (.int z)), τ) := by
      refine (g71_0).trans ?_
      rcases hy with ⟨i, hi, rfl, hk⟩ | ⟨rfl, hk⟩
      · have ej := nQ_m1 (i := i) (by have := hF.2.2.1; omega)
        have hi60 : i < 60 := by have := hF.2.2.1; omega
        have e : rdM τ (9 + 10) i = z := by
          rcases hz with ⟨j, hj, rfl, hk2⟩ | ⟨rfl, hk2⟩
          · exact congrArg (·.2.1) (fl_at hF hI.1.2.1 hi hj (hk.trans hk2.symm))
          · obtain ⟨j, hj, e⟩ := fl_to hF hi
            exact absurd ((congrArg (·.1) e).trans hk) (hk2 j hj)
        simp (disch := omega) only [aOk, eq_self, tk_sB, pr_sB, tk_wr, pr_wr, nQ_nat, nQ_neg, nQ_add, nQ_mul, nQ_lt, leF, ltT, ltF, rd_sB, rd_sB0, wr_sB, wr_sB0, cn_l, cn_r, Option.toList, List.cons_append, List.nil_append, if_true, if_false, true_and, and_true, or_false, false_or, true_or, or_true, not_false_eq_true, not_true_eq_false, and_false, false_and, zb_0, zb_1, q10, w1, w2, hs.2.1.1, hs.2.1.2.1, hs.2.1.2.2, hs.2.2.1.1, hs.2.2.1.2.1, hs.2.2.1.2.2.1, hs.2.2.1.2.2.2.1, hs.2.2.1.2.2.2.2.1, hs.2.2.1.2.2.2.2.2.1, hs.2.2.1.2.2.2.2.2.2.1, hs.2.2.1.2.2.2.2.2.2.2.1, hs.2.2.1.2.2.2.2.2.2.2.2, hs.2.2.2.1.1, hs.2.2.2.1.2.1, hs.2.2.2.1.2.2.1, hs.2.2.2.1.2.2.2, hs.2.2.2.2.1.1, hs.2.2.2.2.1.2.1, hs.2.2.2.2.1.2.2, hs.2.2.2.2.2.1.1, hs.2.2.2.2.2.1.2.1, hs.2.2.2.2.2.1.2.2.1, hs.2.2.2.2.2.1.2.2.2.1, hs.2.2.2.2.2.1.2.2.2.2.1, hs.2.2.2.2.2.1.2.2.2.2.2.1, hs.2.2.2.2.2.1.2.2.2.2.2.2, hs.2.2.2.2.2.2.1.1, hs.2.2.2.2.2.2.1.2.1, hs.2.2.2.2.2.2.1.2.2.1, hs.2.2.2.2.2.2.1.2.2.2, hs.2.2.2.2.2.2.2.1, hs.2.2.2.2.2.2.2.2.1, hs.2.2.2.2.2.2.2.2.2, le8 hs.1, c93, eq_true hx, e6, ej, e, g71_12, g71_15, g71_37]
      · have e : z = -1 := by
          rcases hz with ⟨j, hj, rfl, hk2⟩ | ⟨rfl, hk2⟩
          · obtain ⟨i, hi, e⟩ := fl_fro hF hj
            exact absurd ((congrArg (·.1) e).trans hk2) (hk i hi)
          · rfl
        simp (disch := omega) only [aOk, eq_self, tk_sB, pr_sB, tk_wr, pr_wr, nQ_nat, nQ_neg, nQ_add, nQ_mul, nQ_lt, leF, ltT, ltF, rd_sB, rd_sB0, wr_sB, wr_sB0, cn_l, cn_r, Option.toList, List.cons_append, List.nil_append, if_true, if_false, true_and, and_true, or_false, false_or, true_or, or_true, not_false_eq_true, not_true_eq_false, and_false, false_and, zb_0, zb_1, q10, w1, w2, hs.2.1.1, hs.2.1.2.1, hs.2.1.2.2, hs.2.2.1.1, hs.2.2.1.2.1, hs.2.2.1.2.2.1, hs.2.2.1.2.2.2.1, hs.2.2.1.2.2.2.2.1, hs.2.2.1.2.2.2.2.2.1, hs.2.2.1.2.2.2.2.2.2.1, hs.2.2.1.2.2.2.2.2.2.2.1, hs.2.2.1.2.2.2.2.2.2.2.2, hs.2.2.2.1.1, hs.2.2.2.1.2.1, hs.2.2.2.1.2.2.1, hs.2.2.2.1.2.2.2, hs.2.2.2.2.1.1, hs.2.2.2.2.1.2.1, hs.2.2.2.2.1.2.2, hs.2.2.2.2.2.1.1, hs.2.2.2.2.2.1.2.1, hs.2.2.2.2.2.1.2.2.1, hs.2.2.2.2.2.1.2.2.2.1, hs.2.2.2.2.2.1.2.2.2.2.1, hs.2.2.2.2.2.1.2.2.2.2.2.1, hs.2.2.2.2.2.1.2.2.2.2.2.2, hs.2.2.2.2.2.2.1.1, hs.2.2.2.2.2.2.1.2.1, hs.2.2.2.2.2.2.1.2.2.1, hs.2.2.2.2.2.2.1.2.2.2, hs.2.2.2.2.2.2.2.1, hs.2.2.2.2.2.2.2.2.1, hs.2.2.2.2.2.2.2.2.2, le8 hs.1, c93, eq_true hx, e6, e, g71_12, g71_15, g71_37]
    obtain ⟨z', e', hz'⟩ := m171_0 (σ := wrM τ 193 0 z) (d := rw_ τ 186) hM hF.2.1 hF.2.2.1 hx
    have : z' = z := by
      rcases hz with ⟨j, hj, rfl, hk2⟩ | ⟨rfl, hk2⟩ <;> rcases hz' with ⟨j', hj', rfl, hk3⟩ | ⟨rfl, hk3⟩
      · rw [hI.1.2.1 j' j hj' hj (hk3.trans hk2.symm)]
      · exact absurd hk2 (hk3 j hj)
      · exact absurd hk3 (hk2 j' hj')
      · rfl
    rw [this] at e'
    exact StW_Q h (Cl_rfl τ) (w214_r w1 w0 hc) e' (Md_th _) rfl
  · refine StW_E h (k := 1) (by decide) (by decide) (w214_E1 w1 ?_) (m171_1 hM hx)
    refine (g71_0).trans ?_
    simp only [w1, w2, hs.2.1.1, hs.2.1.2.1, hs.2.1.2.2, hs.2.2.1.1, hs.2.2.1.2.1, hs.2.2.1.2.2.1, hs.2.2.1.2.2.2.1, hs.2.2.1.2.2.2.2.1, hs.2.2.1.2.2.2.2.2.1, hs.2.2.1.2.2.2.2.2.2.1, hs.2.2.1.2.2.2.2.2.2.2.1, hs.2.2.1.2.2.2.2.2.2.2.2, hs.2.2.2.1.1, hs.2.2.2.1.2.1, hs.2.2.2.1.2.2.1, hs.2.2.2.1.2.2.2, hs.2.2.2.2.1.1, hs.2.2.2.2.1.2.1, hs.2.2.2.2.1.2.2, hs.2.2.2.2.2.1.1, hs.2.2.2.2.2.1.2.1, hs.2.2.2.2.2.1.2.2.1, hs.2.2.2.2.2.1.2.2.2.1, hs.2.2.2.2.2.1.2.2.2.2.1, hs.2.2.2.2.2.1.2.2.2.2.2.1, hs.2.2.2.2.2.1.2.2.2.2.2.2, hs.2.2.2.2.2.2.1.1, hs.2.2.2.2.2.2.1.2.1, hs.2.2.2.2.2.2.1.2.2.1, hs.2.2.2.2.2.2.1.2.2.2, hs.2.2.2.2.2.2.2.1, hs.2.2.2.2.2.2.2.2.1, hs.2.2.2.2.2.2.2.2.2, le8 hs.1, if_true, c93, eq_false hx, if_false, cn_r]
theorem s72 (h : RW L xs τ) (v w : Int32) : StW L xs 215 172 [.int v, .int w] τ := by
  obtain ⟨n, hR, hF, hI⟩ := RW_n h
  have hM : ShM τ 186 := h.1.1.2.2.2
  have w1 : tkM τ 8 = (1, 4) := h.1.1.1.1
  have w2 : prM τ 8 0 = 9 := h.1.1.1.2.1
  have w0 : tkM τ 193 = (5, 1) := h.1.1.2.2.1.2.2.2.2.2.2.2.2.2
  have hs : ShS τ 9 := h.1.1.2.1.1
  by_cases hx : inP v (nQ 0) (nQ 9) ∧ inP w (nQ 0) (nQ 99)
  · obtain ⟨y, e6, hy⟩ := c6 (d := rw_ τ 9) hs hF.1 hF.2.2.1 (nQ 100 * v + w)
    rw [sB_rw] at e6
    obtain ⟨z, -, hz⟩ := m172_0 (σ := wrM τ 193 0 0) (d := rw_ τ 186) hM hF.2.1 hF.2.2.1 hx
    have hc : DoM 72 [.ref 8, .int v, .int w] τ = some (.inl (some (.int z)), τ) := by
      refine (g72_0).trans ?_
      rcases hy with ⟨i, hi, rfl, hk⟩ | ⟨rfl, hk⟩
      · have ej := nQ_m1 (i := i) (by have := hF.2.2.1; omega)
        have hi60 : i < 60 := by have := hF.2.2.1; omega
        have e : rdM τ (9 + 11) i = z := by
          rcases hz with ⟨j, hj, rfl, hk2⟩ | ⟨rfl, hk2⟩
          · exact congrArg (·.2.2.1) (fl_at hF hI.1.2.1 hi hj (hk.trans hk2.symm))
          · obtain ⟨j, hj, e⟩ := fl_to hF hi
            exact absurd ((congrArg (·.1) e).trans hk) (hk2 j hj)
        simp (disch := omega) only [aOk, eq_self, tk_sB, pr_sB, tk_wr, pr_wr, nQ_nat, nQ_neg, nQ_add, nQ_mul, nQ_lt, leF, ltT, ltF, rd_sB, rd_sB0, wr_sB, wr_sB0, cn_l, cn_r, Option.toList, List.cons_append, List.nil_append, if_true, if_false, true_and, and_true, or_false, false_or, true_or, or_true, not_false_eq_true, not_true_eq_false, and_false, false_and, zb_0, zb_1, q10, w1, w2, hs.2.1.1, hs.2.1.2.1, hs.2.1.2.2, hs.2.2.1.1, hs.2.2.1.2.1, hs.2.2.1.2.2.1, hs.2.2.1.2.2.2.1, hs.2.2.1.2.2.2.2.1, hs.2.2.1.2.2.2.2.2.1, hs.2.2.1.2.2.2.2.2.2.1, hs.2.2.1.2.2.2.2.2.2.2.1, hs.2.2.1.2.2.2.2.2.2.2.2, hs.2.2.2.1.1, hs.2.2.2.1.2.1, hs.2.2.2.1.2.2.1, hs.2.2.2.1.2.2.2, hs.2.2.2.2.1.1, hs.2.2.2.2.1.2.1, hs.2.2.2.2.1.2.2, hs.2.2.2.2.2.1.1, hs.2.2.2.2.2.1.2.1, hs.2.2.2.2.2.1.2.2.1, hs.2.2.2.2.2.1.2.2.2.1, hs.2.2.2.2.2.1.2.2.2.2.1, hs.2.2.2.2.2.1.2.2.2.2.2.1, hs.2.2.2.2.2.1.2.2.2.2.2.2, hs.2.2.2.2.2.2.1.1, hs.2.2.2.2.2.2.1.2.1, hs.2.2.2.2.2.2.1.2.2.1, hs.2.2.2.2.2.2.1.2.2.2, hs.2.2.2.2.2.2.2.1, hs.2.2.2.2.2.2.2.2.1, hs.2.2.2.2.2.2.2.2.2, le8 hs.1, c93, eq_true hx, e6, ej, e, g72_12, g72_15, g72_37]
      · have e : z = -1 := by
          rcases hz with ⟨j, hj, rfl, hk2⟩ | ⟨rfl, hk2⟩
          · obtain ⟨i, hi, e⟩ := fl_fro hF hj
            exact absurd ((congrArg (·.1) e).trans hk2) (hk i hi)
          · rfl
        simp (disch := omega) only [aOk, eq_self, tk_sB, pr_sB, tk_wr, pr_wr, nQ_nat, nQ_neg, nQ_add, nQ_mul, nQ_lt, leF, ltT, ltF, rd_sB, rd_sB0, wr_sB, wr_sB0, cn_l, cn_r, Option.toList, List.cons_append, List.nil_append, if_true, if_false, true_and, and_true, or_false, false_or, true_or, or_true, not_false_eq_true, not_true_eq_false, and_false, false_and, zb_0, zb_1, q10, w1, w2, hs.2.1.1, hs.2.1.2.1, hs.2.1.2.2, hs.2.2.1.1, hs.2.2.1.2.1, hs.2.2.1.2.2.1, hs.2.2.1.2.2.2.1, hs.2.2.1.2.2.2.2.1, hs.2.2.1.2.2.2.2.2.1, hs.2.2.1.2.2.2.2.2.2.1, hs.2.2.1.2.2.2.2.2.2.2.1, hs.2.2.1.2.2.2.2.2.2.2.2, hs.2.2.2.1.1, hs.2.2.2.1.2.1, hs.2.2.2.1.2.2.1, hs.2.2.2.1.2.2.2, hs.2.2.2.2.1.1, hs.2.2.2.2.1.2.1, hs.2.2.2.2.1.2.2, hs.2.2.2.2.2.1.1, hs.2.2.2.2.2.1.2.1, hs.2.2.2.2.2.1.2.2.1, hs.2.2.2.2.2.1.2.2.2.1, hs.2.2.2.2.2.1.2.2.2.2.1, hs.2.2.2.2.2.1.2.2.2.2.2.1, hs.2.2.2.2.2.1.2.2.2.2.2.2, hs.2.2.2.2.2.2.1.1, hs.2.2.2.2.2.2.1.2.1, hs.2.2.2.2.2.2.1.2.2.1, hs.2.2.2.2.2.2.1.2.2.2, hs.2.2.2.2.2.2.2.1, hs.2.2.2.2.2.2.2.2.1, hs.2.2.2.2.2.2.2.2.2, le8 hs.1, c93, eq_true hx, e6, e, g72_12, g72_15, g72_37]
    obtain ⟨z', e', hz'⟩ := m172_0 (σ := wrM τ 193 0 z) (d := rw_ τ 186) hM hF.2.1 hF.2.2.1 hx
    have : z' = z := by
      rcases hz with ⟨j, hj, rfl, hk2⟩ | ⟨rfl, hk2⟩ <;> rcases hz' with ⟨j', hj', rfl, hk3⟩ | ⟨rfl, hk3⟩
      · rw [hI.1.2.1 j' j hj' hj (hk3.trans hk2.symm)]
      · exact absurd hk2 (hk3 j hj)
      · exact absurd hk3 (hk2 j' hj')
      · rfl
    rw [this] at e'
    exact StW_Q h (Cl_rfl τ) (w215_r w1 w0 hc) e' (Md_th _) rfl
  · refine StW_E h (k := 1) (by decide) (by decide) (w215_E1 w1 ?_) (m172_1 hM hx)
    refine (g72_0).trans ?_
    simp only [w1, w2, hs.2.1.1, hs.2.1.2.1, hs.2.1.2.2, hs.2.2.1.1, hs.2.2.1.2.1, hs.2.2.1.2.2.1, hs.2.2.1.2.2.2.1, hs.2.2.1.2.2.2.2.1, hs.2.2.1.2.2.2.2.2.1, hs.2.2.1.2.2.2.2.2.2.1, hs.2.2.1.2.2.2.2.2.2.2.1, hs.2.2.1.2.2.2.2.2.2.2.2, hs.2.2.2.1.1, hs.2.2.2.1.2.1, hs.2.2.2.1.2.2.1, hs.2.2.2.1.2.2.2, hs.2.2.2.2.1.1, hs.2.2.2.2.1.2.1, hs.2.2.2.2.1.2.2, hs.2.2.2.2.2.1.1, hs.2.2.2.2.2.1.2.1, hs.2.2.2.2.2.1.2.2.1, hs.2.2.2.2.2.1.2.2.2.1, hs.2.2.2.2.2.1.2.2.2.2.1, hs.2.2.2.2.2.1.2.2.2.2.2.1, hs.2.2.2.2.2.1.2.2.2.2.2.2, hs.2.2.2.2.2.2.1.1, hs.2.2.2.2.2.2.1.2.1, hs.2.2.2.2.2.2.1.2.2.1, hs.2.2.2.2.2.2.1.2.2.2, hs.2.2.2.2.2.2.2.1, hs.2.2.2.2.2.2.2.2.1, hs.2.2.2.2.2.2.2.2.2, le8 hs.1, if_true, c93, eq_false hx, if_false, cn_r]
theorem s76 (h : RW L xs τ) (v w x : Int32) : StW L xs 218 176 [.int v, .int w, .int x] τ := by
  obtain ⟨n, hR, hF, hI⟩ := RW_n h
  have hM : ShM τ 186 := h.1.1.2.2.2
  have w1 : tkM τ 8 = (1, 4) := h.1.1.1.1
  have w2 : prM τ 8 0 = 9 := h.1.1.1.2.1
  have w0 : tkM τ 193 = (5, 1) := h.1.1.2.2.1.2.2.2.2.2.2.2.2.2
  have hs : ShS τ 9 := h.1.1.2.1.1
  by_cases hx : inP v (nQ 0) (nQ 5) ∧ inP w (nQ 0) (nQ 2)
  · by_cases hz : inP x (nQ 0) (nQ 5000)
    · obtain ⟨u, hu, rfl⟩ := in_ex hx.1 (by decide)
      obtain ⟨g, hg, rfl⟩ := in_ex hx.2 (by decide)
      obtain ⟨z, hz5, rfl⟩ := in_ex hz (by decide)
      have hc : DoM 76 [.ref 8, .int (nQ u), .int (nQ g), .int (nQ z)] τ = some (.inl (some (.int (nQ (raN (rdM τ 187) n (riF (rw_ τ 186 5) (nQ z) (nQ 1) (nQ z) (nQ 1)) u g)))), τ) := by
        have r23 := c23 (d := rw_ τ 9) hs hR (n := n) (fun k _ => rfl) (u := u) (g := g) (by omega) (by omega) (x0 := nQ z) (x1 := nQ 1) (x2 := nQ z) (x3 := nQ 1) (ri := riF (rw_ τ 186 5) (nQ z) (nQ 1) (nQ z) (nQ 1)) (by_q hz5) (by_q (by decide)) (by_q hz5) (by_q (by decide))
        rw [sB_rw] at r23
        refine (g76_0).trans ?_
        simp (disch := omega) only [aOk, eq_self, tk_sB, pr_sB, tk_wr, pr_wr, nQ_nat, nQ_neg, nQ_add, nQ_mul, nQ_lt, leF, ltT, ltF, rd_sB, rd_sB0, wr_sB, wr_sB0, cn_l, cn_r, Option.toList, List.cons_append, List.nil_append, if_true, if_false, true_and, and_true, or_false, false_or, true_or, or_true, not_false_eq_true, not_true_eq_false, and_false, false_and, zb_0, zb_1, q10, w1, w2, hs.2.1.1, hs.2.1.2.1, hs.2.1.2.2, hs.2.2.1.1, hs.2.2.1.2.1, hs.2.2.1.2.2.1, hs.2.2.1.2.2.2.1, hs.2.2.1.2.2.2.2.1, hs.2.2.1.2.2.2.2.2.1, hs.2.2.1.2.2.2.2.2.2.1, hs.2.2.1.2.2.2.2.2.2.2.1, hs.2.2.1.2.2.2.2.2.2.2.2, hs.2.2.2.1.1, hs.2.2.2.1.2.1, hs.2.2.2.1.2.2.1, hs.2.2.2.1.2.2.2, hs.2.2.2.2.1.1, hs.2.2.2.2.1.2.1, hs.2.2.2.2.1.2.2, hs.2.2.2.2.2.1.1, hs.2.2.2.2.2.1.2.1, hs.2.2.2.2.2.1.2.2.1, hs.2.2.2.2.2.1.2.2.2.1, hs.2.2.2.2.2.1.2.2.2.2.1, hs.2.2.2.2.2.1.2.2.2.2.2.1, hs.2.2.2.2.2.1.2.2.2.2.2.2, hs.2.2.2.2.2.2.1.1, hs.2.2.2.2.2.2.1.2.1, hs.2.2.2.2.2.2.1.2.2.1, hs.2.2.2.2.2.2.1.2.2.2, hs.2.2.2.2.2.2.2.1, hs.2.2.2.2.2.2.2.2.1, hs.2.2.2.2.2.2.2.2.2, le8 hs.1, c87, c88, c94, eq_true hx.1, eq_true hx.2, eq_true hz, r23, g76_4, g76_8, g76_12, g76_25]
      exact StW_Q h (Cl_rfl τ) (w218_r w1 w0 hc) (m176_0 (σ := wrM τ 193 0 _) (d := rw_ τ 186) hM hF.2.1 hF.2.2.1 (by omega) (by omega) hz) ⟨rfl, rfl, rfl, rfl, rfl⟩ rfl
    · refine StW_E h (k := 2) (by decide) (by decide) (w218_E2 w1 ?_) (m176_2 hM hx.1 hx.2 hz)
      refine (g76_0).trans ?_
      simp only [c87, c88, c94, eq_true hx.1, eq_true hx.2, eq_false hz, aOk, eq_self, tk_sB, pr_sB, tk_wr, pr_wr, nQ_nat, nQ_neg, nQ_add, nQ_mul, nQ_lt, leF, ltT, ltF, rd_sB, rd_sB0, wr_sB, wr_sB0, cn_l, cn_r, Option.toList, List.cons_append, List.nil_append, if_true, if_false, true_and, and_true, or_false, false_or, true_or, or_true, not_false_eq_true, not_true_eq_false, and_false, false_and, zb_0, zb_1, q10, g76_4, g76_8, g76_12, g76_25]
  · refine StW_E h (k := 1) (by decide) (by decide) (w218_E1 w1 ?_) (m176_1 hM hx)
    refine (g76_0).trans ?_
    rcases Classical.propComplete (inP v (nQ 0) (nQ 5)) with e1 | e1
    · rcases Classical.propComplete (inP w (nQ 0) (nQ 2)) with e2 | e2
      · exact absurd ⟨of_eq_true e1, of_eq_true e2⟩ hx
      · simp only [c87, c88, e1, e2, aOk, eq_self, tk_sB, pr_sB, tk_wr, pr_wr, nQ_nat, nQ_neg, nQ_add, nQ_mul, nQ_lt, leF, ltT, ltF, rd_sB, rd_sB0, wr_sB, wr_sB0, cn_l, cn_r, Option.toList, List.cons_append, List.nil_append, if_true, if_false, true_and, and_true, or_false, false_or, true_or, or_true, not_false_eq_true, not_true_eq_false, and_false, false_and, zb_0, zb_1, q10, g76_4, g76_8, g76_12, g76_25]
    · simp only [c87, e1, aOk, eq_self, tk_sB, pr_sB, tk_wr, pr_wr, nQ_nat, nQ_neg, nQ_add, nQ_mul, nQ_lt, leF, ltT, ltF, rd_sB, rd_sB0, wr_sB, wr_sB0, cn_l, cn_r, Option.toList, List.cons_append, List.nil_append, if_true, if_false, true_and, and_true, or_false, false_or, true_or, or_true, not_false_eq_true, not_true_eq_false, and_false, false_and, zb_0, zb_1, q10, g76_4, g76_8, g76_12, g76_25]
theorem c3 {σ : Mem} {b : Nat} {d : Nat → Nat → Int32} {f : Nat → Int32} (h : ShS σ b) (hl : LgR d f) : ∃ e, f 308 = nQ e ∧ e ≤ 12 ∧ ∀ (v : Int32) (p : Nat), ¬ v < nQ 0 → p < 4 → DoM 3 [.ref (b + 13), .int v, .int (nQ p)] (sB 17 σ b d) = some (.inl (some (.int (if v < nQ e then f (309 + 4 * v.toNatClampNeg + p) else -1))), sB 17 σ b d) := by
  obtain ⟨h8, ⟨k0, k8, k13⟩, ⟨p1, p2, p3, p4, p5, p6, p7, p8, p9⟩, ⟨q1, q2, q3, q4⟩, ⟨e2, e3, e4⟩, ⟨t1, t2, t3, t4, t5, t6, t7⟩, ⟨t9, t10, t11, t12⟩, ⟨t14, t15, t16⟩⟩ := id h
  obtain ⟨q, e, hq, he, z0, z1, f8, hE⟩ := hl
  refine ⟨e, f8, he, fun v p hv hp => ?_⟩
  refine (g3_0).trans ?_
  by_cases c1 : v < nQ e
  · obtain ⟨i, hi, rfl⟩ : ∃ i, i < e ∧ v = nQ i := by
      have h1 : ¬ v.toInt < (nQ 0).toInt := fun z => hv (Int32.lt_iff_toInt_lt.mpr z)
      rw [nQ_int (by decide)] at h1
      have h2 := Int32.lt_iff_toInt_lt.mp c1
      rw [nQ_int (by omega)] at h2
      refine ⟨v.toInt.toNat, by omega, ?_⟩
      apply Int32.toInt_inj.mp
      rw [nQ_int (by omega)]
      omega
    obtain ⟨b1, ⟨k, b2, b3, b4, b5⟩, b6⟩ := hE i hi
    have em : q + i - (q + i) / 12 * 12 = (q + i) % 12 := by omega
    have hm : (q + i) % 12 < 12 := by omega
    have n21 : (nQ 2 = nQ 1) = False := by rw [nQ_eq (by decide) (by decide)]; simp
    have n31 : (nQ 3 = nQ 1) = False := by rw [nQ_eq (by decide) (by decide)]; simp
    have n32 : (nQ 3 = nQ 2) = False := by rw [nQ_eq (by decide) (by decide)]; simp
    rw [if_pos c1]
    rcases (show p = 0 ∨ p = 1 ∨ p = 2 ∨ p = 3 by omega) with rfl | rfl | rfl | rfl <;> simp (disch := omega) only [aOk, eq_self, tk_sB, pr_sB, tk_wr, pr_wr, nQ_nat, nQ_neg, nQ_add, nQ_mul, nQ_lt, leF, ltT, ltF, rd_sB, rd_sB0, wr_sB, wr_sB0, cn_l, cn_r, Option.toList, List.cons_append, List.nil_append, if_true, if_false, true_and, and_true, or_false, false_or, true_or, or_true, not_false_eq_true, not_true_eq_false, and_false, false_and, zb_0, zb_1, q10, k0, k8, k13, p1, p2, p3, p4, p5, p6, p7, p8, p9, q1, q2, q3, q4, e2, e3, e4, t1, t2, t3, t4, t5, t6, t7, t9, t10, t11, t12, t14, t15, t16, le8 h8, z0, z1, hi, em, nQ_div, nQ_sub, b1, b3, b4, b5, b6, Nat.add_zero, q10, q20, q30, n21, n31, n32]
  · rw [if_neg c1]
    simp (disch := omega) only [aOk, eq_self, tk_sB, pr_sB, tk_wr, pr_wr, nQ_nat, nQ_neg, nQ_add, nQ_mul, nQ_lt, leF, ltT, ltF, rd_sB, rd_sB0, wr_sB, wr_sB0, cn_l, cn_r, Option.toList, List.cons_append, List.nil_append, if_true, if_false, true_and, and_true, or_false, false_or, true_or, or_true, not_false_eq_true, not_true_eq_false, and_false, false_and, zb_0, zb_1, q10, k0, k8, k13, p1, p2, p3, p4, p5, p6, p7, p8, p9, q1, q2, q3, q4, e2, e3, e4, t1, t2, t3, t4, t5, t6, t7, t9, t10, t11, t12, t14, t15, t16, le8 h8, z0, c1]

theorem s83 (h : RW L xs τ) (v w : Int32) : StW L xs 222 186 [.int v, .int w] τ := by
  obtain ⟨n, hR, hF, hI⟩ := RW_n h
  have hM : ShM τ 186 := h.1.1.2.2.2
  have w1 : tkM τ 8 = (1, 4) := h.1.1.1.1
  have w2 : prM τ 8 0 = 9 := h.1.1.1.2.1
  have w0 : tkM τ 193 = (5, 1) := h.1.1.2.2.1.2.2.2.2.2.2.2.2.2
  have hs : ShS τ 9 := h.1.1.2.1.1
  by_cases hx : v < nQ 0
  · refine StW_E h (k := 1) (by decide) (by decide) (w222_E1 w1 ?_) (m186_1 hM hx)
    refine (g83_0).trans ?_
    simp only [eq_true hx, if_true]
  · by_cases hy : inP w (nQ 0) (nQ 3)
    · obtain ⟨p, hp, rfl⟩ := in_ex hy (by decide)
      obtain ⟨e, he, h12, hc3⟩ := c3 (d := rw_ τ 9) hs hR.2.2.2
      have e3 := hc3 v p hx (by omega)
      rw [sB_rw] at e3
      have hc : DoM 83 [.ref 8, .int v, .int (nQ p)] τ = some (.inl (some (.int (if v < nQ e then rdM τ 187 (309 + 4 * v.toNatClampNeg + p) else -1))), τ) := by
        refine (g83_0).trans ?_
        simp (disch := omega) only [aOk, eq_self, tk_sB, pr_sB, tk_wr, pr_wr, nQ_nat, nQ_neg, nQ_add, nQ_mul, nQ_lt, leF, ltT, ltF, rd_sB, rd_sB0, wr_sB, wr_sB0, cn_l, cn_r, Option.toList, List.cons_append, List.nil_append, if_true, if_false, true_and, and_true, or_false, false_or, true_or, or_true, not_false_eq_true, not_true_eq_false, and_false, false_and, zb_0, zb_1, q10, w1, w2, hs.2.1.1, hs.2.1.2.1, hs.2.1.2.2, hs.2.2.1.1, hs.2.2.1.2.1, hs.2.2.1.2.2.1, hs.2.2.1.2.2.2.1, hs.2.2.1.2.2.2.2.1, hs.2.2.1.2.2.2.2.2.1, hs.2.2.1.2.2.2.2.2.2.1, hs.2.2.1.2.2.2.2.2.2.2.1, hs.2.2.1.2.2.2.2.2.2.2.2, hs.2.2.2.1.1, hs.2.2.2.1.2.1, hs.2.2.2.1.2.2.1, hs.2.2.2.1.2.2.2, hs.2.2.2.2.1.1, hs.2.2.2.2.1.2.1, hs.2.2.2.2.1.2.2, hs.2.2.2.2.2.1.1, hs.2.2.2.2.2.1.2.1, hs.2.2.2.2.2.1.2.2.1, hs.2.2.2.2.2.1.2.2.2.1, hs.2.2.2.2.2.1.2.2.2.2.1, hs.2.2.2.2.2.1.2.2.2.2.2.1, hs.2.2.2.2.2.1.2.2.2.2.2.2, hs.2.2.2.2.2.2.1.1, hs.2.2.2.2.2.2.1.2.1, hs.2.2.2.2.2.2.1.2.2.1, hs.2.2.2.2.2.2.1.2.2.2, hs.2.2.2.2.2.2.2.1, hs.2.2.2.2.2.2.2.2.1, hs.2.2.2.2.2.2.2.2.2, le8 hs.1, eq_false hx, e3, g83_47]
      exact StW_Q h (Cl_rfl τ) (w222_r w1 w0 hc) (m186_0 (σ := wrM τ 193 0 _) (d := rw_ τ 186) hM he h12 hx (by omega)) (Md_th _) rfl
    · refine StW_E h (k := 2) (by decide) (by decide) (w222_E2 w1 ?_) (m186_2 hM hx hy)
      refine (g83_0).trans ?_
      by_cases h1 : w < nQ 0
      · simp only [eq_false hx, h1, aOk, eq_self, tk_sB, pr_sB, tk_wr, pr_wr, nQ_nat, nQ_neg, nQ_add, nQ_mul, nQ_lt, leF, ltT, ltF, rd_sB, rd_sB0, wr_sB, wr_sB0, cn_l, cn_r, Option.toList, List.cons_append, List.nil_append, if_true, if_false, true_and, and_true, or_false, false_or, true_or, or_true, not_false_eq_true, not_true_eq_false, and_false, false_and, zb_0, zb_1, q10, g83_24]
      · have h2 : nQ 3 < w := Classical.byContradiction fun z => hy ⟨h1, z⟩
        simp only [eq_false hx, h1, ltQ_s w (N := 3) (by decide), h2, aOk, eq_self, tk_sB, pr_sB, tk_wr, pr_wr, nQ_nat, nQ_neg, nQ_add, nQ_mul, nQ_lt, leF, ltT, ltF, rd_sB, rd_sB0, wr_sB, wr_sB0, cn_l, cn_r, Option.toList, List.cons_append, List.nil_append, if_true, if_false, true_and, and_true, or_false, false_or, true_or, or_true, not_false_eq_true, not_true_eq_false, and_false, false_and, zb_0, zb_1, q10, g83_24]
end Qv
