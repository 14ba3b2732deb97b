/-! The model's public methods. -/
theorem in_ex {v : Int32} {N : Nat} (h : inP v (nQ 0) (nQ N)) (hN : N < 2147483647) : ∃ n, n ≤ N ∧ v = nQ n := by
  obtain ⟨h1, h2⟩ := h
  rw [Int32.lt_iff_toInt_lt] at h1 h2
  rw [nQ_int (by decide)] at h1
  rw [nQ_int (by omega)] at h2
  refine ⟨v.toInt.toNat, by omega, ?_⟩
  apply Int32.toInt_inj.mp
  rw [nQ_int (by omega)]
  omega
section Mg
variable {σ : Mem} {b : Nat} {d : Nat → Nat → Int32}
/-- the thrown code set -/
abbrev thF (d : Nat → Nat → Int32) (k : Nat) : Nat → Nat → Int32 := rX d 0 (up (d 0) 0 (nQ k))
/-- the state kept behind the thrown code 0 -/
abbrev kdF (d : Nat → Nat → Int32) (c : Nat) : Nat → Nat → Int32 := rX (rX (thF d 0) 0 (up (thF d 0 0) 2 (nQ (if c = 6 then 6 else c + 1)))) 1 (kpF (d 1) c)
theorem m134_1 (h : ShM σ b) {u g w x z : Int32} (hx : ¬ (inP u (nQ 0) (nQ 5) ∧ inP g (nQ 0) (nQ 2) ∧ inP w (nQ 0) (nQ 9) ∧ inP x (nQ 0) (nQ 99))) : DoM 134 [.ref b, .int u, .int g, .int w, .int x, .int z] (sB 7 σ b d) = some (.inl (some (.int (nQ 0))), sB 7 σ b (thF d 1)) := by
  have h0 := h.2.1
  refine (g134_0).trans ?_
  have K : ∀ o7, RuM 134 (62, [some (.ref b), some (.int u), some (.int g), some (.int w), some (.int x), some (.int z), some (.int (nQ 0)), o7], [.int (nQ 0)], 0, 0) (sB 7 σ b d) = some (.inl (some (.int (nQ 0))), sB 7 σ b (thF d 1)) := by
    intro o7
    simp (disch := omega) only [aOk, eq_self, tk_sB, pr_sB, tk_wr, pr_wr, nQ_nat, nQ_neg, nQ_add, nQ_mul, nQ_lt, leF, ltT, ltF, rd_sB, rd_sB0, wr_sB, wr_sB0, cn_l, cn_r, Option.toList, List.cons_append, List.nil_append, if_true, if_false, true_and, and_true, or_false, false_or, true_or, or_true, not_false_eq_true, not_true_eq_false, and_false, false_and, zb_0, zb_1, q10, h0, m107 h, q10, g134_62, g134_100, g134_103]
  by_cases c1 : inP u (nQ 0) (nQ 5)
  · by_cases c2 : inP g (nQ 0) (nQ 2)
    · have c3 : ¬ (inP w (nQ 0) (nQ 9) ∧ inP x (nQ 0) (nQ 99)) := fun z => hx ⟨c1, c2, z⟩
      simp (disch := omega) only [m108, m109, m110, if_z, eq_true c1, eq_true c2, eq_false c3, aOk, eq_self, tk_sB, pr_sB, tk_wr, pr_wr, nQ_nat, nQ_neg, nQ_add, nQ_mul, nQ_lt, leF, ltT, ltF, rd_sB, rd_sB0, wr_sB, wr_sB0, cn_l, cn_r, Option.toList, List.cons_append, List.nil_append, if_true, if_false, true_and, and_true, or_false, false_or, true_or, or_true, not_false_eq_true, not_true_eq_false, and_false, false_and, zb_0, zb_1, q10, K, g134_4, g134_11, g134_20, g134_27, g134_28, g134_42, g134_61, g134_127]
    · simp (disch := omega) only [m108, m109, m110, if_z, eq_true c1, eq_false c2, aOk, eq_self, tk_sB, pr_sB, tk_wr, pr_wr, nQ_nat, nQ_neg, nQ_add, nQ_mul, nQ_lt, leF, ltT, ltF, rd_sB, rd_sB0, wr_sB, wr_sB0, cn_l, cn_r, Option.toList, List.cons_append, List.nil_append, if_true, if_false, true_and, and_true, or_false, false_or, true_or, or_true, not_false_eq_true, not_true_eq_false, and_false, false_and, zb_0, zb_1, q10, K, g134_4, g134_11, g134_20, g134_27, g134_28, g134_42, g134_61, g134_127]
  · simp (disch := omega) only [m108, m109, m110, if_z, eq_false c1, aOk, eq_self, tk_sB, pr_sB, tk_wr, pr_wr, nQ_nat, nQ_neg, nQ_add, nQ_mul, nQ_lt, leF, ltT, ltF, rd_sB, rd_sB0, wr_sB, wr_sB0, cn_l, cn_r, Option.toList, List.cons_append, List.nil_append, if_true, if_false, true_and, and_true, or_false, false_or, true_or, or_true, not_false_eq_true, not_true_eq_false, and_false, false_and, zb_0, zb_1, q10, K, g134_4, g134_11, g134_20, g134_27, g134_28, g134_42, g134_61, g134_127]
end Mg
