/-! The law's calls of the class: GENERATED (wrap.py). -/
theorem w190_r {σ σ' : Mem} {i1 i2 i3 i4 i5 : Int32} (h8 : tkM σ 8 = (1, 4)) (ht : tkM σ' 193 = (5, 1)) {v : Int32} (hc : DoM 45 [.ref 8, .int i1, .int i2, .int i3, .int i4, .int i5] σ = some (.inl (some (.int v)), σ')) : DoM 190 [.ref 8, .int i1, .int i2, .int i3, .int i4, .int i5, .ref 193] σ = some (.inl (some (.int (nQ 0))), wrM σ' 193 0 v) := by
  refine (g190_0).trans ?_
  simp (disch := omega) only [aOk, eq_self, tk_sB, pr_sB, tk_wr, pr_wr, nQ_nat, nQ_neg, nQ_add, nQ_mul, nQ_lt, leF, ltT, ltF, rd_sB, rd_sB0, wr_sB, wr_sB0, cn_l, cn_r, Option.toList, List.cons_append, List.nil_append, if_true, if_false, true_and, and_true, or_false, false_or, true_or, or_true, not_false_eq_true, not_true_eq_false, and_false, false_and, zb_0, zb_1, q10, h8, hc, ht, Int32.toInt32_toInt64, g190_14, g190_16]
theorem w190_E1 {σ σ' : Mem} {i1 i2 i3 i4 i5 : Int32} (h8 : tkM σ 8 = (1, 4)) (hc : DoM 45 [.ref 8, .int i1, .int i2, .int i3, .int i4, .int i5] σ = some (.inr 1, σ')) : DoM 190 [.ref 8, .int i1, .int i2, .int i3, .int i4, .int i5, .ref 193] σ = some (.inl (some (.int (nQ 1))), σ') := by
  refine (g190_0).trans ?_
  simp only [h8, hc, if_true, cn_r]
  exact g190_21
theorem w190_E2 {σ σ' : Mem} {i1 i2 i3 i4 i5 : Int32} (h8 : tkM σ 8 = (1, 4)) (hc : DoM 45 [.ref 8, .int i1, .int i2, .int i3, .int i4, .int i5] σ = some (.inr 2, σ')) : DoM 190 [.ref 8, .int i1, .int i2, .int i3, .int i4, .int i5, .ref 193] σ = some (.inl (some (.int (nQ 2))), σ') := by
  refine (g190_0).trans ?_
  simp only [h8, hc, if_true, cn_r]
  exact g190_25
theorem w190_E3 {σ σ' : Mem} {i1 i2 i3 i4 i5 : Int32} (h8 : tkM σ 8 = (1, 4)) (hc : DoM 45 [.ref 8, .int i1, .int i2, .int i3, .int i4, .int i5] σ = some (.inr 3, σ')) : DoM 190 [.ref 8, .int i1, .int i2, .int i3, .int i4, .int i5, .ref 193] σ = some (.inl (some (.int (nQ 3))), σ') := by
  refine (g190_0).trans ?_
  simp only [h8, hc, if_true, cn_r]
  exact g190_29
theorem w191_r {σ σ' : Mem} {i1 i2 i3 : Int32} (h8 : tkM σ 8 = (1, 4)) (ht : tkM σ' 193 = (5, 1)) {v : Int32} (hc : DoM 46 [.ref 8, .int i1, .int i2, .int i3] σ = some (.inl (some (.int v)), σ')) : DoM 191 [.ref 8, .int i1, .int i2, .int i3, .ref 193] σ = some (.inl (some (.int (nQ 0))), wrM σ' 193 0 v) := by
  refine (g191_0).trans ?_
  simp (disch := omega) only [aOk, eq_self, tk_sB, pr_sB, tk_wr, pr_wr, nQ_nat, nQ_neg, nQ_add, nQ_mul, nQ_lt, leF, ltT, ltF, rd_sB, rd_sB0, wr_sB, wr_sB0, cn_l, cn_r, Option.toList, List.cons_append, List.nil_append, if_true, if_false, true_and, and_true, or_false, false_or, true_or, or_true, not_false_eq_true, not_true_eq_false, and_false, false_and, zb_0, zb_1, q10, h8, hc, ht, Int32.toInt32_toInt64, g191_10, g191_12]
theorem w191_E1 {σ σ' : Mem} {i1 i2 i3 : Int32} (h8 : tkM σ 8 = (1, 4)) (hc : DoM 46 [.ref 8, .int i1, .int i2, .int i3] σ = some (.inr 1, σ')) : DoM 191 [.ref 8, .int i1, .int i2, .int i3, .ref 193] σ = some (.inl (some (.int (nQ 1))), σ') := by
  refine (g191_0).trans ?_
  simp only [h8, hc, if_true, cn_r]
  exact g191_17
theorem w191_E2 {σ σ' : Mem} {i1 i2 i3 : Int32} (h8 : tkM σ 8 = (1, 4)) (hc : DoM 46 [.ref 8, .int i1, .int i2, .int i3] σ = some (.inr 2, σ')) : DoM 191 [.ref 8, .int i1, .int i2, .int i3, .ref 193] σ = some (.inl (some (.int (nQ 2))), σ') := by
  refine (g191_0).trans ?_
  simp only [h8, hc, if_true, cn_r]
  exact g191_21
theorem w191_E3 {σ σ' : Mem} {i1 i2 i3 : Int32} (h8 : tkM σ 8 = (1, 4)) (hc : DoM 46 [.ref 8, .int i1, .int i2, .int i3] σ = some (.inr 3, σ')) : DoM 191 [.ref 8, .int i1, .int i2, .int i3, .ref 193] σ = some (.inl (some (.int (nQ 3))), σ') := by
  refine (g191_0).trans ?_
  simp only [h8, hc, if_true, cn_r]
  exact g191_25
theorem w192_r {σ σ' : Mem} {i1 i2 : Int32} (h8 : tkM σ 8 = (1, 4)) (ht : tkM σ' 193 = (5, 1)) {v : Int32} (hc : DoM 47 [.ref 8, .int i1, .int i2] σ = some (.inl (some (.int v)), σ')) : DoM 192 [.ref 8, .int i1, .int i2, .ref 193] σ = some (.inl (some (.int (nQ 0))), wrM σ' 193 0 v) := by
  refine (g192_0).trans ?_
  simp (disch := omega) only [aOk, eq_self, tk_sB, pr_sB, tk_wr, pr_wr, nQ_nat, nQ_neg, nQ_add, nQ_mul, nQ_lt, leF, ltT, ltF, rd_sB, rd_sB0, wr_sB, wr_sB0, cn_l, cn_r, Option.toList, List.cons_append, List.nil_append, if_true, if_false, true_and, and_true, or_false, false_or, true_or, or_true, not_false_eq_true, not_true_eq_false, and_false, false_and, zb_0, zb_1, q10, h8, hc, ht, Int32.toInt32_toInt64, g192_8, g192_10]
theorem w192_E1 {σ σ' : Mem} {i1 i2 : Int32} (h8 : tkM σ 8 = (1, 4)) (hc : DoM 47 [.ref 8, .int i1, .int i2] σ = some (.inr 1, σ')) : DoM 192 [.ref 8, .int i1, .int i2, .ref 193] σ = some (.inl (some (.int (nQ 1))), σ') := by
  refine (g192_0).trans ?_
  simp only [h8, hc, if_true, cn_r]
  exact g192_15
theorem w192_E3 {σ σ' : Mem} {i1 i2 : Int32} (h8 : tkM σ 8 = (1, 4)) (hc : DoM 47 [.ref 8, .int i1, .int i2] σ = some (.inr 3, σ')) : DoM 192 [.ref 8, .int i1, .int i2, .ref 193] σ = some (.inl (some (.int (nQ 2))), σ') := by
  refine (g192_0).trans ?_
  simp only [h8, hc, if_true, cn_r]
  exact g192_19
theorem w193_r {σ σ' : Mem} {i1 i2 i3 i4 : Int32} (h8 : tkM σ 8 = (1, 4)) (ht : tkM σ' 193 = (5, 1)) {v : Int32} (hc : DoM 48 [.ref 8, .int i1, .int i2, .int i3, .int i4] σ = some (.inl (some (.int v)), σ')) : DoM 193 [.ref 8, .int i1, .int i2, .int i3, .int i4, .ref 193] σ = some (.inl (some (.int (nQ 0))), wrM σ' 193 0 v) := by
  refine (g193_0).trans ?_
  simp (disch := omega) only [aOk, eq_self, tk_sB, pr_sB, tk_wr, pr_wr, nQ_nat, nQ_neg, nQ_add, nQ_mul, nQ_lt, leF, ltT, ltF, rd_sB, rd_sB0, wr_sB, wr_sB0, cn_l, cn_r, Option.toList, List.cons_append, List.nil_append, if_true, if_false, true_and, and_true, or_false, false_or, true_or, or_true, not_false_eq_true, not_true_eq_false, and_false, false_and, zb_0, zb_1, q10, h8, hc, ht, Int32.toInt32_toInt64, g193_12, g193_14]
theorem w193_E1 {σ σ' : Mem} {i1 i2 i3 i4 : Int32} (h8 : tkM σ 8 = (1, 4)) (hc : DoM 48 [.ref 8, .int i1, .int i2, .int i3, .int i4] σ = some (.inr 1, σ')) : DoM 193 [.ref 8, .int i1, .int i2, .int i3, .int i4, .ref 193] σ = some (.inl (some (.int (nQ 1))), σ') := by
  refine (g193_0).trans ?_
  simp only [h8, hc, if_true, cn_r]
  exact g193_19
theorem w193_E3 {σ σ' : Mem} {i1 i2 i3 i4 : Int32} (h8 : tkM σ 8 = (1, 4)) (hc : DoM 48 [.ref 8, .int i1, .int i2, .int i3, .int i4] σ = some (.inr 3, σ')) : DoM 193 [.ref 8, .int i1, .int i2, .int i3, .int i4, .ref 193] σ = some (.inl (some (.int (nQ 2))), σ') := by
  refine (g193_0).trans ?_
  simp only [h8, hc, if_true, cn_r]
  exact g193_23
theorem w194_r {σ σ' : Mem} {i1 i2 i3 i4 : Int32} (h8 : tkM σ 8 = (1, 4)) (ht : tkM σ' 193 = (5, 1)) {v : Int32} (hc : DoM 49 [.ref 8, .int i1, .int i2, .int i3, .int i4] σ = some (.inl (some (.int v)), σ')) : DoM 194 [.ref 8, .int i1, .int i2, .int i3, .int i4, .ref 193] σ = some (.inl (some (.int (nQ 0))), wrM σ' 193 0 v) := by
  refine (g194_0).trans ?_
  simp (disch := omega) only [aOk, eq_self, tk_sB, pr_sB, tk_wr, pr_wr, nQ_nat, nQ_neg, nQ_add, nQ_mul, nQ_lt, leF, ltT, ltF, rd_sB, rd_sB0, wr_sB, wr_sB0, cn_l, cn_r, Option.toList, List.cons_append, List.nil_append, if_true, if_false, true_and, and_true, or_false, false_or, true_or, or_true, not_false_eq_true, not_true_eq_false, and_false, false_and, zb_0, zb_1, q10, h8, hc, ht, Int32.toInt32_toInt64, g194_12, g194_14]
theorem w194_E1 {σ σ' : Mem} {i1 i2 i3 i4 : Int32} (h8 : tkM σ 8 = (1, 4)) (hc : DoM 49 [.ref 8, .int i1, .int i2, .int i3, .int i4] σ = some (.inr 1, σ')) : DoM 194 [.ref 8, .int i1, .int i2, .int i3, .int i4, .ref 193] σ = some (.inl (some (.int (nQ 1))), σ') := by
  refine (g194_0).trans ?_
  simp only [h8, hc, if_true, cn_r]
  exact g194_19
theorem w194_E2 {σ σ' : Mem} {i1 i2 i3 i4 : Int32} (h8 : tkM σ 8 = (1, 4)) (hc : DoM 49 [.ref 8, .int i1, .int i2, .int i3, .int i4] σ = some (.inr 2, σ')) : DoM 194 [.ref 8, .int i1, .int i2, .int i3, .int i4, .ref 193] σ = some (.inl (some (.int (nQ 2))), σ') := by
  refine (g194_0).trans ?_
  simp only [h8, hc, if_true, cn_r]
  exact g194_23
theorem w195_r {σ σ' : Mem} {i1 i2 : Int32} (h8 : tkM σ 8 = (1, 4)) (ht : tkM σ' 193 = (5, 1)) {v : Int32} (hc : DoM 50 [.ref 8, .int i1, .int i2] σ = some (.inl (some (.int v)), σ')) : DoM 195 [.ref 8, .int i1, .int i2, .ref 193] σ = some (.inl (some (.int (nQ 0))), wrM σ' 193 0 v) := by
  refine (g195_0).trans ?_
  simp (disch := omega) only [aOk, eq_self, tk_sB, pr_sB, tk_wr, pr_wr, nQ_nat, nQ_neg, nQ_add, nQ_mul, nQ_lt, leF, ltT, ltF, rd_sB, rd_sB0, wr_sB, wr_sB0, cn_l, cn_r, Option.toList, List.cons_append, List.nil_append, if_true, if_false, true_and, and_true, or_false, false_or, true_or, or_true, not_false_eq_true, not_true_eq_false, and_false, false_and, zb_0, zb_1, q10, h8, hc, ht, Int32.toInt32_toInt64, g195_8, g195_10]
theorem w195_E1 {σ σ' : Mem} {i1 i2 : Int32} (h8 : tkM σ 8 = (1, 4)) (hc : DoM 50 [.ref 8, .int i1, .int i2] σ = some (.inr 1, σ')) : DoM 195 [.ref 8, .int i1, .int i2, .ref 193] σ = some (.inl (some (.int (nQ 1))), σ') := by
  refine (g195_0).trans ?_
  simp only [h8, hc, if_true, cn_r]
  exact g195_15
theorem w195_E2 {σ σ' : Mem} {i1 i2 : Int32} (h8 : tkM σ 8 = (1, 4)) (hc : DoM 50 [.ref 8, .int i1, .int i2] σ = some (.inr 2, σ')) : DoM 195 [.ref 8, .int i1, .int i2, .ref 193] σ = some (.inl (some (.int (nQ 2))), σ') := by
  refine (g195_0).trans ?_
  simp only [h8, hc, if_true, cn_r]
  exact g195_19
theorem w196_r {σ σ' : Mem} {i1 i2 : Int32} (h8 : tkM σ 8 = (1, 4)) (ht : tkM σ' 193 = (5, 1)) {v : Int32} (hc : DoM 51 [.ref 8, .int i1, .int i2] σ = some (.inl (some (.int v)), σ')) : DoM 196 [.ref 8, .int i1, .int i2, .ref 193] σ = some (.inl (some (.int (nQ 0))), wrM σ' 193 0 v) := by
  refine (g196_0).trans ?_
  simp (disch := omega) only [aOk, eq_self, tk_sB, pr_sB, tk_wr, pr_wr, nQ_nat, nQ_neg, nQ_add, nQ_mul, nQ_lt, leF, ltT, ltF, rd_sB, rd_sB0, wr_sB, wr_sB0, cn_l, cn_r, Option.toList, List.cons_append, List.nil_append, if_true, if_false, true_and, and_true, or_false, false_or, true_or, or_true, not_false_eq_true, not_true_eq_false, and_false, false_and, zb_0, zb_1, q10, h8, hc, ht, Int32.toInt32_toInt64, g196_8, g196_10]
theorem w196_E1 {σ σ' : Mem} {i1 i2 : Int32} (h8 : tkM σ 8 = (1, 4)) (hc : DoM 51 [.ref 8, .int i1, .int i2] σ = some (.inr 1, σ')) : DoM 196 [.ref 8, .int i1, .int i2, .ref 193] σ = some (.inl (some (.int (nQ 1))), σ') := by
  refine (g196_0).trans ?_
  simp only [h8, hc, if_true, cn_r]
  exact g196_15
theorem w196_E3 {σ σ' : Mem} {i1 i2 : Int32} (h8 : tkM σ 8 = (1, 4)) (hc : DoM 51 [.ref 8, .int i1, .int i2] σ = some (.inr 3, σ')) : DoM 196 [.ref 8, .int i1, .int i2, .ref 193] σ = some (.inl (some (.int (nQ 2))), σ') := by
  refine (g196_0).trans ?_
  simp only [h8, hc, if_true, cn_r]
  exact g196_19
theorem w197_r {σ σ' : Mem} {i1 i2 : Int32} (h8 : tkM σ 8 = (1, 4)) (ht : tkM σ' 193 = (5, 1)) {v : Int32} (hc : DoM 52 [.ref 8, .int i1, .int i2] σ = some (.inl (some (.int v)), σ')) : DoM 197 [.ref 8, .int i1, .int i2, .ref 193] σ = some (.inl (some (.int (nQ 0))), wrM σ' 193 0 v) := by
  refine (g197_0).trans ?_
  simp (disch := omega) only [aOk, eq_self, tk_sB, pr_sB, tk_wr, pr_wr, nQ_nat, nQ_neg, nQ_add, nQ_mul, nQ_lt, leF, ltT, ltF, rd_sB, rd_sB0, wr_sB, wr_sB0, cn_l, cn_r, Option.toList, List.cons_append, List.nil_append, if_true, if_false, true_and, and_true, or_false, false_or, true_or, or_true, not_false_eq_true, not_true_eq_false, and_false, false_and, zb_0, zb_1, q10, h8, hc, ht, Int32.toInt32_toInt64, g197_8, g197_10]
theorem w197_E1 {σ σ' : Mem} {i1 i2 : Int32} (h8 : tkM σ 8 = (1, 4)) (hc : DoM 52 [.ref 8, .int i1, .int i2] σ = some (.inr 1, σ')) : DoM 197 [.ref 8, .int i1, .int i2, .ref 193] σ = some (.inl (some (.int (nQ 1))), σ') := by
  refine (g197_0).trans ?_
  simp only [h8, hc, if_true, cn_r]
  exact g197_15
theorem w198_r {σ σ' : Mem} {i1 : Int32} (h8 : tkM σ 8 = (1, 4)) (ht : tkM σ' 193 = (5, 1)) {v : Int32} (hc : DoM 53 [.ref 8, .int i1] σ = some (.inl (some (.int v)), σ')) : DoM 198 [.ref 8, .int i1, .ref 193] σ = some (.inl (some (.int (nQ 0))), wrM σ' 193 0 v) := by
  refine (g198_0).trans ?_
  simp (disch := omega) only [aOk, eq_self, tk_sB, pr_sB, tk_wr, pr_wr, nQ_nat, nQ_neg, nQ_add, nQ_mul, nQ_lt, leF, ltT, ltF, rd_sB, rd_sB0, wr_sB, wr_sB0, cn_l, cn_r, Option.toList, List.cons_append, List.nil_append, if_true, if_false, true_and, and_true, or_false, false_or, true_or, or_true, not_false_eq_true, not_true_eq_false, and_false, false_and, zb_0, zb_1, q10, h8, hc, ht, Int32.toInt32_toInt64, g198_7, g198_9]
theorem w198_E2 {σ σ' : Mem} {i1 : Int32} (h8 : tkM σ 8 = (1, 4)) (hc : DoM 53 [.ref 8, .int i1] σ = some (.inr 2, σ')) : DoM 198 [.ref 8, .int i1, .ref 193] σ = some (.inl (some (.int (nQ 1))), σ') := by
  refine (g198_0).trans ?_
  simp only [h8, hc, if_true, cn_r]
  exact g198_13
theorem w198_E3 {σ σ' : Mem} {i1 : Int32} (h8 : tkM σ 8 = (1, 4)) (hc : DoM 53 [.ref 8, .int i1] σ = some (.inr 3, σ')) : DoM 198 [.ref 8, .int i1, .ref 193] σ = some (.inl (some (.int (nQ 2))), σ') := by
  refine (g198_0).trans ?_
  simp only [h8, hc, if_true, cn_r]
  exact g198_16
theorem w199_r {σ σ' : Mem} {i1 : Int32} (h8 : tkM σ 8 = (1, 4)) (ht : tkM σ' 193 = (5, 1)) {v : Int32} (hc : DoM 54 [.ref 8, .int i1] σ = some (.inl (some (.int v)), σ')) : DoM 199 [.ref 8, .int i1, .ref 193] σ = some (.inl (some (.int (nQ 0))), wrM σ' 193 0 v) := by
  refine (g199_0).trans ?_
  simp (disch := omega) only [aOk, eq_self, tk_sB, pr_sB, tk_wr, pr_wr, nQ_nat, nQ_neg, nQ_add, nQ_mul, nQ_lt, leF, ltT, ltF, rd_sB, rd_sB0, wr_sB, wr_sB0, cn_l, cn_r, Option.toList, List.cons_append, List.nil_append, if_true, if_false, true_and, and_true, or_false, false_or, true_or, or_true, not_false_eq_true, not_true_eq_false, and_false, false_and, zb_0, zb_1, q10, h8, hc, ht, Int32.toInt32_toInt64, g199_7, g199_9]
theorem w199_E2 {σ σ' : Mem} {i1 : Int32} (h8 : tkM σ 8 = (1, 4)) (hc : DoM 54 [.ref 8, .int i1] σ = some (.inr 2, σ')) : DoM 199 [.ref 8, .int i1, .ref 193] σ = some (.inl (some (.int (nQ 1))), σ') := by
  refine (g199_0).trans ?_
  simp only [h8, hc, if_true, cn_r]
  exact g199_13
theorem w199_E3 {σ σ' : Mem} {i1 : Int32} (h8 : tkM σ 8 = (1, 4)) (hc : DoM 54 [.ref 8, .int i1] σ = some (.inr 3, σ')) : DoM 199 [.ref 8, .int i1, .ref 193] σ = some (.inl (some (.int (nQ 2))), σ') := by
  refine (g199_0).trans ?_
  simp only [h8, hc, if_true, cn_r]
  exact g199_16
theorem w200_r {σ σ' : Mem} (h8 : tkM σ 8 = (1, 4)) (ht : tkM σ' 193 = (5, 1)) {v : Int32} (hc : DoM 57 [.ref 8] σ = some (.inl (some (.int v)), σ')) : DoM 200 [.ref 8, .ref 193] σ = some (.inl (some (.int (nQ 0))), wrM σ' 193 0 v) := by
  refine (g200_0).trans ?_
  simp (disch := omega) only [aOk, eq_self, tk_sB, pr_sB, tk_wr, pr_wr, nQ_nat, nQ_neg, nQ_add, nQ_mul, nQ_lt, leF, ltT, ltF, rd_sB, rd_sB0, wr_sB, wr_sB0, cn_l, cn_r, Option.toList, List.cons_append, List.nil_append, if_true, if_false, true_and, and_true, or_false, false_or, true_or, or_true, not_false_eq_true, not_true_eq_false, and_false, false_and, zb_0, zb_1, q10, h8, hc, ht, Int32.toInt32_toInt64, g200_6, g200_8]
theorem w200_E3 {σ σ' : Mem} (h8 : tkM σ 8 = (1, 4)) (hc : DoM 57 [.ref 8] σ = some (.inr 3, σ')) : DoM 200 [.ref 8, .ref 193] σ = some (.inl (some (.int (nQ 1))), σ') := by
  refine (g200_0).trans ?_
  simp only [h8, hc, if_true, cn_r]
  exact g200_12
theorem w201_r {σ σ' : Mem} (h8 : tkM σ 8 = (1, 4)) (ht : tkM σ' 193 = (5, 1)) {v : Int32} (hc : DoM 58 [.ref 8] σ = some (.inl (some (.int v)), σ')) : DoM 201 [.ref 8, .ref 193] σ = some (.inl (some (.int (nQ 0))), wrM σ' 193 0 v) := by
  refine (g201_0).trans ?_
  simp (disch := omega) only [aOk, eq_self, tk_sB, pr_sB, tk_wr, pr_wr, nQ_nat, nQ_neg, nQ_add, nQ_mul, nQ_lt, leF, ltT, ltF, rd_sB, rd_sB0, wr_sB, wr_sB0, cn_l, cn_r, Option.toList, List.cons_append, List.nil_append, if_true, if_false, true_and, and_true, or_false, false_or, true_or, or_true, not_false_eq_true, not_true_eq_false, and_false, false_and, zb_0, zb_1, q10, h8, hc, ht, Int32.toInt32_toInt64, g201_6, g201_8]
theorem w201_E3 {σ σ' : Mem} (h8 : tkM σ 8 = (1, 4)) (hc : DoM 58 [.ref 8] σ = some (.inr 3, σ')) : DoM 201 [.ref 8, .ref 193] σ = some (.inl (some (.int (nQ 1))), σ') := by
  refine (g201_0).trans ?_
  simp only [h8, hc, if_true, cn_r]
  exact g201_12
theorem w202_r {σ σ' : Mem} {i1 : Int32} (h8 : tkM σ 8 = (1, 4)) (ht : tkM σ' 193 = (5, 1)) {v : Int32} (hc : DoM 59 [.ref 8, .int i1] σ = some (.inl (some (.int v)), σ')) : DoM 202 [.ref 8, .int i1, .ref 193] σ = some (.inl (some (.int (nQ 0))), wrM σ' 193 0 v) := by
  refine (g202_0).trans ?_
  simp (disch := omega) only [aOk, eq_self, tk_sB, pr_sB, tk_wr, pr_wr, nQ_nat, nQ_neg, nQ_add, nQ_mul, nQ_lt, leF, ltT, ltF, rd_sB, rd_sB0, wr_sB, wr_sB0, cn_l, cn_r, Option.toList, List.cons_append, List.nil_append, if_true, if_false, true_and, and_true, or_false, false_or, true_or, or_true, not_false_eq_true, not_true_eq_false, and_false, false_and, zb_0, zb_1, q10, h8, hc, ht, Int32.toInt32_toInt64, g202_7, g202_9]
theorem w202_E1 {σ σ' : Mem} {i1 : Int32} (h8 : tkM σ 8 = (1, 4)) (hc : DoM 59 [.ref 8, .int i1] σ = some (.inr 1, σ')) : DoM 202 [.ref 8, .int i1, .ref 193] σ = some (.inl (some (.int (nQ 1))), σ') := by
  refine (g202_0).trans ?_
  simp only [h8, hc, if_true, cn_r]
  exact g202_13
theorem w203_r {σ σ' : Mem} {i1 : Int32} (h8 : tkM σ 8 = (1, 4)) (ht : tkM σ' 193 = (5, 1)) {v : Int32} (hc : DoM 60 [.ref 8, .int i1] σ = some (.inl (some (.int v)), σ')) : DoM 203 [.ref 8, .int i1, .ref 193] σ = some (.inl (some (.int (nQ 0))), wrM σ' 193 0 v) := by
  refine (g203_0).trans ?_
  simp (disch := omega) only [aOk, eq_self, tk_sB, pr_sB, tk_wr, pr_wr, nQ_nat, nQ_neg, nQ_add, nQ_mul, nQ_lt, leF, ltT, ltF, rd_sB, rd_sB0, wr_sB, wr_sB0, cn_l, cn_r, Option.toList, List.cons_append, List.nil_append, if_true, if_false, true_and, and_true, or_false, false_or, true_or, or_true, not_false_eq_true, not_true_eq_false, and_false, false_and, zb_0, zb_1, q10, h8, hc, ht, Int32.toInt32_toInt64, g203_7, g203_9]
theorem w203_E1 {σ σ' : Mem} {i1 : Int32} (h8 : tkM σ 8 = (1, 4)) (hc : DoM 60 [.ref 8, .int i1] σ = some (.inr 1, σ')) : DoM 203 [.ref 8, .int i1, .ref 193] σ = some (.inl (some (.int (nQ 1))), σ') := by
  refine (g203_0).trans ?_
  simp only [h8, hc, if_true, cn_r]
  exact g203_13
theorem w203_E3 {σ σ' : Mem} {i1 : Int32} (h8 : tkM σ 8 = (1, 4)) (hc : DoM 60 [.ref 8, .int i1] σ = some (.inr 3, σ')) : DoM 203 [.ref 8, .int i1, .ref 193] σ = some (.inl (some (.int (nQ 2))), σ') := by
  refine (g203_0).trans ?_
  simp only [h8, hc, if_true, cn_r]
  exact g203_16
theorem w204_r {σ σ' : Mem} {i1 i2 : Int32} (h8 : tkM σ 8 = (1, 4)) (ht : tkM σ' 193 = (5, 1)) {v : Int32} (hc : DoM 61 [.ref 8, .int i1, .int i2] σ = some (.inl (some (.int v)), σ')) : DoM 204 [.ref 8, .int i1, .int i2, .ref 193] σ = some (.inl (some (.int (nQ 0))), wrM σ' 193 0 v) := by
  refine (g204_0).trans ?_
  simp (disch := omega) only [aOk, eq_self, tk_sB, pr_sB, tk_wr, pr_wr, nQ_nat, nQ_neg, nQ_add, nQ_mul, nQ_lt, leF, ltT, ltF, rd_sB, rd_sB0, wr_sB, wr_sB0, cn_l, cn_r, Option.toList, List.cons_append, List.nil_append, if_true, if_false, true_and, and_true, or_false, false_or, true_or, or_true, not_false_eq_true, not_true_eq_false, and_false, false_and, zb_0, zb_1, q10, h8, hc, ht, Int32.toInt32_toInt64, g204_8, g204_10]
theorem w204_E1 {σ σ' : Mem} {i1 i2 : Int32} (h8 : tkM σ 8 = (1, 4)) (hc : DoM 61 [.ref 8, .int i1, .int i2] σ = some (.inr 1, σ')) : DoM 204 [.ref 8, .int i1, .int i2, .ref 193] σ = some (.inl (some (.int (nQ 1))), σ') := by
  refine (g204_0).trans ?_
  simp only [h8, hc, if_true, cn_r]
  exact g204_15
theorem w205_r {σ σ' : Mem} {i1 i2 : Int32} (h8 : tkM σ 8 = (1, 4)) (ht : tkM σ' 193 = (5, 1)) {v : Int32} (hc : DoM 62 [.ref 8, .int i1, .int i2] σ = some (.inl (some (.int v)), σ')) : DoM 205 [.ref 8, .int i1, .int i2, .ref 193] σ = some (.inl (some (.int (nQ 0))), wrM σ' 193 0 v) := by
  refine (g205_0).trans ?_
  simp (disch := omega) only [aOk, eq_self, tk_sB, pr_sB, tk_wr, pr_wr, nQ_nat, nQ_neg, nQ_add, nQ_mul, nQ_lt, leF, ltT, ltF, rd_sB, rd_sB0, wr_sB, wr_sB0, cn_l, cn_r, Option.toList, List.cons_append, List.nil_append, if_true, if_false, true_and, and_true, or_false, false_or, true_or, or_true, not_false_eq_true, not_true_eq_false, and_false, false_and, zb_0, zb_1, q10, h8, hc, ht, Int32.toInt32_toInt64, g205_8, g205_10]
theorem w205_E1 {σ σ' : Mem} {i1 i2 : Int32} (h8 : tkM σ 8 = (1, 4)) (hc : DoM 62 [.ref 8, .int i1, .int i2] σ = some (.inr 1, σ')) : DoM 205 [.ref 8, .int i1, .int i2, .ref 193] σ = some (.inl (some (.int (nQ 1))), σ') := by
  refine (g205_0).trans ?_
  simp only [h8, hc, if_true, cn_r]
  exact g205_15
theorem w206_r {σ σ' : Mem} {i1 i2 : Int32} (h8 : tkM σ 8 = (1, 4)) (ht : tkM σ' 193 = (5, 1)) {v : Int32} (hc : DoM 63 [.ref 8, .int i1, .int i2] σ = some (.inl (some (.int v)), σ')) : DoM 206 [.ref 8, .int i1, .int i2, .ref 193] σ = some (.inl (some (.int (nQ 0))), wrM σ' 193 0 v) := by
  refine (g206_0).trans ?_
  simp (disch := omega) only [aOk, eq_self, tk_sB, pr_sB, tk_wr, pr_wr, nQ_nat, nQ_neg, nQ_add, nQ_mul, nQ_lt, leF, ltT, ltF, rd_sB, rd_sB0, wr_sB, wr_sB0, cn_l, cn_r, Option.toList, List.cons_append, List.nil_append, if_true, if_false, true_and, and_true, or_false, false_or, true_or, or_true, not_false_eq_true, not_true_eq_false, and_false, false_and, zb_0, zb_1, q10, h8, hc, ht, Int32.toInt32_toInt64, g206_8, g206_10]
theorem w206_E1 {σ σ' : Mem} {i1 i2 : Int32} (h8 : tkM σ 8 = (1, 4)) (hc : DoM 63 [.ref 8, .int i1, .int i2] σ = some (.inr 1, σ')) : DoM 206 [.ref 8, .int i1, .int i2, .ref 193] σ = some (.inl (some (.int (nQ 1))), σ') := by
  refine (g206_0).trans ?_
  simp only [h8, hc, if_true, cn_r]
  exact g206_15
theorem w207_r {σ σ' : Mem} {i1 i2 : Int32} (h8 : tkM σ 8 = (1, 4)) (ht : tkM σ' 193 = (5, 1)) {v : Int32} (hc : DoM 64 [.ref 8, .int i1, .int i2] σ = some (.inl (some (.int v)), σ')) : DoM 207 [.ref 8, .int i1, .int i2, .ref 193] σ = some (.inl (some (.int (nQ 0))), wrM σ' 193 0 v) := by
  refine (g207_0).trans ?_
  simp (disch := omega) only [aOk, eq_self, tk_sB, pr_sB, tk_wr, pr_wr, nQ_nat, nQ_neg, nQ_add, nQ_mul, nQ_lt, leF, ltT, ltF, rd_sB, rd_sB0, wr_sB, wr_sB0, cn_l, cn_r, Option.toList, List.cons_append, List.nil_append, if_true, if_false, true_and, and_true, or_false, false_or, true_or, or_true, not_false_eq_true, not_true_eq_false, and_false, false_and, zb_0, zb_1, q10, h8, hc, ht, Int32.toInt32_toInt64, g207_8, g207_10]
theorem w207_E1 {σ σ' : Mem} {i1 i2 : Int32} (h8 : tkM σ 8 = (1, 4)) (hc : DoM 64 [.ref 8, .int i1, .int i2] σ = some (.inr 1, σ')) : DoM 207 [.ref 8, .int i1, .int i2, .ref 193] σ = some (.inl (some (.int (nQ 1))), σ') := by
  refine (g207_0).trans ?_
  simp only [h8, hc, if_true, cn_r]
  exact g207_15
theorem w208_r {σ σ' : Mem} {i1 i2 : Int32} (h8 : tkM σ 8 = (1, 4)) (ht : tkM σ' 193 = (5, 1)) {v : Int32} (hc : DoM 65 [.ref 8, .int i1, .int i2] σ = some (.inl (some (.int v)), σ')) : DoM 208 [.ref 8, .int i1, .int i2, .ref 193] σ = some (.inl (some (.int (nQ 0))), wrM σ' 193 0 v) := by
  refine (g208_0).trans ?_
  simp (disch := omega) only [aOk, eq_self, tk_sB, pr_sB, tk_wr, pr_wr, nQ_nat, nQ_neg, nQ_add, nQ_mul, nQ_lt, leF, ltT, ltF, rd_sB, rd_sB0, wr_sB, wr_sB0, cn_l, cn_r, Option.toList, List.cons_append, List.nil_append, if_true, if_false, true_and, and_true, or_false, false_or, true_or, or_true, not_false_eq_true, not_true_eq_false, and_false, false_and, zb_0, zb_1, q10, h8, hc, ht, Int32.toInt32_toInt64, g208_8, g208_10]
theorem w208_E1 {σ σ' : Mem} {i1 i2 : Int32} (h8 : tkM σ 8 = (1, 4)) (hc : DoM 65 [.ref 8, .int i1, .int i2] σ = some (.inr 1, σ')) : DoM 208 [.ref 8, .int i1, .int i2, .ref 193] σ = some (.inl (some (.int (nQ 1))), σ') := by
  refine (g208_0).trans ?_
  simp only [h8, hc, if_true, cn_r]
  exact g208_15
theorem w209_r {σ σ' : Mem} {i1 i2 : Int32} (h8 : tkM σ 8 = (1, 4)) (ht : tkM σ' 193 = (5, 1)) {v : Int32} (hc : DoM 66 [.ref 8, .int i1, .int i2] σ = some (.inl (some (.int v)), σ')) : DoM 209 [.ref 8, .int i1, .int i2, .ref 193] σ = some (.inl (some (.int (nQ 0))), wrM σ' 193 0 v) := by
  refine (g209_0).trans ?_
  simp (disch := omega) only [aOk, eq_self, tk_sB, pr_sB, tk_wr, pr_wr, nQ_nat, nQ_neg, nQ_add, nQ_mul, nQ_lt, leF, ltT, ltF, rd_sB, rd_sB0, wr_sB, wr_sB0, cn_l, cn_r, Option.toList, List.cons_append, List.nil_append, if_true, if_false, true_and, and_true, or_false, false_or, true_or, or_true, not_false_eq_true, not_true_eq_false, and_false, false_and, zb_0, zb_1, q10, h8, hc, ht, Int32.toInt32_toInt64, g209_8, g209_10]
theorem w209_E1 {σ σ' : Mem} {i1 i2 : Int32} (h8 : tkM σ 8 = (1, 4)) (hc : DoM 66 [.ref 8, .int i1, .int i2] σ = some (.inr 1, σ')) : DoM 209 [.ref 8, .int i1, .int i2, .ref 193] σ = some (.inl (some (.int (nQ 1))), σ') := by
  refine (g209_0).trans ?_
  simp only [h8, hc, if_true, cn_r]
  exact g209_15
theorem w210_r {σ σ' : Mem} {i1 i2 : Int32} (h8 : tkM σ 8 = (1, 4)) (ht : tkM σ' 193 = (5, 1)) {v : Int32} (hc : DoM 67 [.ref 8, .int i1, .int i2] σ = some (.inl (some (.int v)), σ')) : DoM 210 [.ref 8, .int i1, .int i2, .ref 193] σ = some (.inl (some (.int (nQ 0))), wrM σ' 193 0 v) := by
  refine (g210_0).trans ?_
  simp (disch := omega) only [aOk, eq_self, tk_sB, pr_sB, tk_wr, pr_wr, nQ_nat, nQ_neg, nQ_add, nQ_mul, nQ_lt, leF, ltT, ltF, rd_sB, rd_sB0, wr_sB, wr_sB0, cn_l, cn_r, Option.toList, List.cons_append, List.nil_append, if_true, if_false, true_and, and_true, or_false, false_or, true_or, or_true, not_false_eq_true, not_true_eq_false, and_false, false_and, zb_0, zb_1, q10, h8, hc, ht, Int32.toInt32_toInt64, g210_8, g210_10]
theorem w210_E1 {σ σ' : Mem} {i1 i2 : Int32} (h8 : tkM σ 8 = (1, 4)) (hc : DoM 67 [.ref 8, .int i1, .int i2] σ = some (.inr 1, σ')) : DoM 210 [.ref 8, .int i1, .int i2, .ref 193] σ = some (.inl (some (.int (nQ 1))), σ') := by
  refine (g210_0).trans ?_
  simp only [h8, hc, if_true, cn_r]
  exact g210_15
theorem w211_r {σ σ' : Mem} {i1 : Int32} (h8 : tkM σ 8 = (1, 4)) (ht : tkM σ' 193 = (5, 1)) {v : Int32} (hc : DoM 68 [.ref 8, .int i1] σ = some (.inl (some (.int v)), σ')) : DoM 211 [.ref 8, .int i1, .ref 193] σ = some (.inl (some (.int (nQ 0))), wrM σ' 193 0 v) := by
  refine (g211_0).trans ?_
  simp (disch := omega) only [aOk, eq_self, tk_sB, pr_sB, tk_wr, pr_wr, nQ_nat, nQ_neg, nQ_add, nQ_mul, nQ_lt, leF, ltT, ltF, rd_sB, rd_sB0, wr_sB, wr_sB0, cn_l, cn_r, Option.toList, List.cons_append, List.nil_append, if_true, if_false, true_and, and_true, or_false, false_or, true_or, or_true, not_false_eq_true, not_true_eq_false, and_false, false_and, zb_0, zb_1, q10, h8, hc, ht, Int32.toInt32_toInt64, g211_7, g211_9]
theorem w211_E1 {σ σ' : Mem} {i1 : Int32} (h8 : tkM σ 8 = (1, 4)) (hc : DoM 68 [.ref 8, .int i1] σ = some (.inr 1, σ')) : DoM 211 [.ref 8, .int i1, .ref 193] σ = some (.inl (some (.int (nQ 1))), σ') := by
  refine (g211_0).trans ?_
  simp only [h8, hc, if_true, cn_r]
  exact g211_13
theorem w212_r {σ σ' : Mem} {i1 : Int32} (h8 : tkM σ 8 = (1, 4)) (ht : tkM σ' 193 = (5, 1)) {v : Int32} (hc : DoM 69 [.ref 8, .int i1] σ = some (.inl (some (.int v)), σ')) : DoM 212 [.ref 8, .int i1, .ref 193] σ = some (.inl (some (.int (nQ 0))), wrM σ' 193 0 v) := by
  refine (g212_0).trans ?_
  simp (disch := omega) only [aOk, eq_self, tk_sB, pr_sB, tk_wr, pr_wr, nQ_nat, nQ_neg, nQ_add, nQ_mul, nQ_lt, leF, ltT, ltF, rd_sB, rd_sB0, wr_sB, wr_sB0, cn_l, cn_r, Option.toList, List.cons_append, List.nil_append, if_true, if_false, true_and, and_true, or_false, false_or, true_or, or_true, not_false_eq_true, not_true_eq_false, and_false, false_and, zb_0, zb_1, q10, h8, hc, ht, Int32.toInt32_toInt64, g212_7, g212_9]
theorem w212_E1 {σ σ' : Mem} {i1 : Int32} (h8 : tkM σ 8 = (1, 4)) (hc : DoM 69 [.ref 8, .int i1] σ = some (.inr 1, σ')) : DoM 212 [.ref 8, .int i1, .ref 193] σ = some (.inl (some (.int (nQ 1))), σ') := by
  refine (g212_0).trans ?_
  simp only [h8, hc, if_true, cn_r]
  exact g212_13
theorem w213_r {σ σ' : Mem} {i1 i2 : Int32} (h8 : tkM σ 8 = (1, 4)) (ht : tkM σ' 193 = (5, 1)) {v : Int32} (hc : DoM 70 [.ref 8, .int i1, .int i2] σ = some (.inl (some (.int v)), σ')) : DoM 213 [.ref 8, .int i1, .int i2, .ref 193] σ = some (.inl (some (.int (nQ 0))), wrM σ' 193 0 v) := by
  refine (g213_0).trans ?_
  simp (disch := omega) only [aOk, eq_self, tk_sB, pr_sB, tk_wr, pr_wr, nQ_nat, nQ_neg, nQ_add, nQ_mul, nQ_lt, leF, ltT, ltF, rd_sB, rd_sB0, wr_sB, wr_sB0, cn_l, cn_r, Option.toList, List.cons_append, List.nil_append, if_true, if_false, true_and, and_true, or_false, false_or, true_or, or_true, not_false_eq_true, not_true_eq_false, and_false, false_and, zb_0, zb_1, q10, h8, hc, ht, Int32.toInt32_toInt64, g213_8, g213_10]
theorem w213_E1 {σ σ' : Mem} {i1 i2 : Int32} (h8 : tkM σ 8 = (1, 4)) (hc : DoM 70 [.ref 8, .int i1, .int i2] σ = some (.inr 1, σ')) : DoM 213 [.ref 8, .int i1, .int i2, .ref 193] σ = some (.inl (some (.int (nQ 1))), σ') := by
  refine (g213_0).trans ?_
  simp only [h8, hc, if_true, cn_r]
  exact g213_15
theorem w214_r {σ σ' : Mem} {i1 i2 : Int32} (h8 : tkM σ 8 = (1, 4)) (ht : tkM σ' 193 = (5, 1)) {v : Int32} (hc : DoM 71 [.ref 8, .int i1, .int i2] σ = some (.inl (some (.int v)), σ')) : DoM 214 [.ref 8, .int i1, .int i2, .ref 193] σ = some (.inl (some (.int (nQ 0))), wrM σ' 193 0 v) := by
  refine (g214_0).trans ?_
  simp (disch := omega) only [aOk, eq_self, tk_sB, pr_sB, tk_wr, pr_wr, nQ_nat, nQ_neg, nQ_add, nQ_mul, nQ_lt, leF, ltT, ltF, rd_sB, rd_sB0, wr_sB, wr_sB0, cn_l, cn_r, Option.toList, List.cons_append, List.nil_append, if_true, if_false, true_and, and_true, or_false, false_or, true_or, or_true, not_false_eq_true, not_true_eq_false, and_false, false_and, zb_0, zb_1, q10, h8, hc, ht, Int32.toInt32_toInt64, g214_8, g214_10]
theorem w214_E1 {σ σ' : Mem} {i1 i2 : Int32} (h8 : tkM σ 8 = (1, 4)) (hc : DoM 71 [.ref 8, .int i1, .int i2] σ = some (.inr 1, σ')) : DoM 214 [.ref 8, .int i1, .int i2, .ref 193] σ = some (.inl (some (.int (nQ 1))), σ') := by
  refine (g214_0).trans ?_
  simp only [h8, hc, if_true, cn_r]
  exact g214_15
theorem w215_r {σ σ' : Mem} {i1 i2 : Int32} (h8 : tkM σ 8 = (1, 4)) (ht : tkM σ' 193 = (5, 1)) {v : Int32} (hc : DoM 72 [.ref 8, .int i1, .int i2] σ = some (.inl (some (.int v)), σ')) : DoM 215 [.ref 8, .int i1, .int i2, .ref 193] σ = some (.inl (some (.int (nQ 0))), wrM σ' 193 0 v) := by
  refine (g215_0).trans ?_
  simp (disch := omega) only [aOk, eq_self, tk_sB, pr_sB, tk_wr, pr_wr, nQ_nat, nQ_neg, nQ_add, nQ_mul, nQ_lt, leF, ltT, ltF, rd_sB, rd_sB0, wr_sB, wr_sB0, cn_l, cn_r, Option.toList, List.cons_append, List.nil_append, if_true, if_false, true_and, and_true, or_false, false_or, true_or, or_true, not_false_eq_true, not_true_eq_false, and_false, false_and, zb_0, zb_1, q10, h8, hc, ht, Int32.toInt32_toInt64, g215_8, g215_10]
theorem w215_E1 {σ σ' : Mem} {i1 i2 : Int32} (h8 : tkM σ 8 = (1, 4)) (hc : DoM 72 [.ref 8, .int i1, .int i2] σ = some (.inr 1, σ')) : DoM 215 [.ref 8, .int i1, .int i2, .ref 193] σ = some (.inl (some (.int (nQ 1))), σ') := by
  refine (g215_0).trans ?_
  simp only [h8, hc, if_true, cn_r]
  exact g215_15
theorem w216_r {σ σ' : Mem} {i1 : Int32} (h8 : tkM σ 8 = (1, 4)) (ht : tkM σ' 193 = (5, 1)) {v : Int32} (hc : DoM 74 [.ref 8, .int i1] σ = some (.inl (some (.int v)), σ')) : DoM 216 [.ref 8, .int i1, .ref 193] σ = some (.inl (some (.int (nQ 0))), wrM σ' 193 0 v) := by
  refine (g216_0).trans ?_
  simp (disch := omega) only [aOk, eq_self, tk_sB, pr_sB, tk_wr, pr_wr, nQ_nat, nQ_neg, nQ_add, nQ_mul, nQ_lt, leF, ltT, ltF, rd_sB, rd_sB0, wr_sB, wr_sB0, cn_l, cn_r, Option.toList, List.cons_append, List.nil_append, if_true, if_false, true_and, and_true, or_false, false_or, true_or, or_true, not_false_eq_true, not_true_eq_false, and_false, false_and, zb_0, zb_1, q10, h8, hc, ht, Int32.toInt32_toInt64, g216_7, g216_9]
theorem w216_E1 {σ σ' : Mem} {i1 : Int32} (h8 : tkM σ 8 = (1, 4)) (hc : DoM 74 [.ref 8, .int i1] σ = some (.inr 1, σ')) : DoM 216 [.ref 8, .int i1, .ref 193] σ = some (.inl (some (.int (nQ 1))), σ') := by
  refine (g216_0).trans ?_
  simp only [h8, hc, if_true, cn_r]
  exact g216_13
theorem w217_r {σ σ' : Mem} {i1 : Int32} (h8 : tkM σ 8 = (1, 4)) (ht : tkM σ' 193 = (5, 1)) {v : Int32} (hc : DoM 75 [.ref 8, .int i1] σ = some (.inl (some (.int v)), σ')) : DoM 217 [.ref 8, .int i1, .ref 193] σ = some (.inl (some (.int (nQ 0))), wrM σ' 193 0 v) := by
  refine (g217_0).trans ?_
  simp (disch := omega) only [aOk, eq_self, tk_sB, pr_sB, tk_wr, pr_wr, nQ_nat, nQ_neg, nQ_add, nQ_mul, nQ_lt, leF, ltT, ltF, rd_sB, rd_sB0, wr_sB, wr_sB0, cn_l, cn_r, Option.toList, List.cons_append, List.nil_append, if_true, if_false, true_and, and_true, or_false, false_or, true_or, or_true, not_false_eq_true, not_true_eq_false, and_false, false_and, zb_0, zb_1, q10, h8, hc, ht, Int32.toInt32_toInt64, g217_7, g217_9]
theorem w217_E1 {σ σ' : Mem} {i1 : Int32} (h8 : tkM σ 8 = (1, 4)) (hc : DoM 75 [.ref 8, .int i1] σ = some (.inr 1, σ')) : DoM 217 [.ref 8, .int i1, .ref 193] σ = some (.inl (some (.int (nQ 1))), σ') := by
  refine (g217_0).trans ?_
  simp only [h8, hc, if_true, cn_r]
  exact g217_13
theorem w218_r {σ σ' : Mem} {i1 i2 i3 : Int32} (h8 : tkM σ 8 = (1, 4)) (ht : tkM σ' 193 = (5, 1)) {v : Int32} (hc : DoM 76 [.ref 8, .int i1, .int i2, .int i3] σ = some (.inl (some (.int v)), σ')) : DoM 218 [.ref 8, .int i1, .int i2, .int i3, .ref 193] σ = some (.inl (some (.int (nQ 0))), wrM σ' 193 0 v) := by
  refine (g218_0).trans ?_
  simp (disch := omega) only [aOk, eq_self, tk_sB, pr_sB, tk_wr, pr_wr, nQ_nat, nQ_neg, nQ_add, nQ_mul, nQ_lt, leF, ltT, ltF, rd_sB, rd_sB0, wr_sB, wr_sB0, cn_l, cn_r, Option.toList, List.cons_append, List.nil_append, if_true, if_false, true_and, and_true, or_false, false_or, true_or, or_true, not_false_eq_true, not_true_eq_false, and_false, false_and, zb_0, zb_1, q10, h8, hc, ht, Int32.toInt32_toInt64, g218_10, g218_12]
theorem w218_E1 {σ σ' : Mem} {i1 i2 i3 : Int32} (h8 : tkM σ 8 = (1, 4)) (hc : DoM 76 [.ref 8, .int i1, .int i2, .int i3] σ = some (.inr 1, σ')) : DoM 218 [.ref 8, .int i1, .int i2, .int i3, .ref 193] σ = some (.inl (some (.int (nQ 1))), σ') := by
  refine (g218_0).trans ?_
  simp only [h8, hc, if_true, cn_r]
  exact g218_17
theorem w218_E2 {σ σ' : Mem} {i1 i2 i3 : Int32} (h8 : tkM σ 8 = (1, 4)) (hc : DoM 76 [.ref 8, .int i1, .int i2, .int i3] σ = some (.inr 2, σ')) : DoM 218 [.ref 8, .int i1, .int i2, .int i3, .ref 193] σ = some (.inl (some (.int (nQ 2))), σ') := by
  refine (g218_0).trans ?_
  simp only [h8, hc, if_true, cn_r]
  exact g218_21
theorem w219_r {σ σ' : Mem} {i1 i2 i3 : Int32} (h8 : tkM σ 8 = (1, 4)) (ht : tkM σ' 193 = (5, 1)) {v : Int32} (hc : DoM 77 [.ref 8, .int i1, .int i2, .int i3] σ = some (.inl (some (.int v)), σ')) : DoM 219 [.ref 8, .int i1, .int i2, .int i3, .ref 193] σ = some (.inl (some (.int (nQ 0))), wrM σ' 193 0 v) := by
  refine (g219_0).trans ?_
  simp (disch := omega) only [aOk, eq_self, tk_sB, pr_sB, tk_wr, pr_wr, nQ_nat, nQ_neg, nQ_add, nQ_mul, nQ_lt, leF, ltT, ltF, rd_sB, rd_sB0, wr_sB, wr_sB0, cn_l, cn_r, Option.toList, List.cons_append, List.nil_append, if_true, if_false, true_and, and_true, or_false, false_or, true_or, or_true, not_false_eq_true, not_true_eq_false, and_false, false_and, zb_0, zb_1, q10, h8, hc, ht, Int32.toInt32_toInt64, g219_10, g219_12]
theorem w219_E1 {σ σ' : Mem} {i1 i2 i3 : Int32} (h8 : tkM σ 8 = (1, 4)) (hc : DoM 77 [.ref 8, .int i1, .int i2, .int i3] σ = some (.inr 1, σ')) : DoM 219 [.ref 8, .int i1, .int i2, .int i3, .ref 193] σ = some (.inl (some (.int (nQ 1))), σ') := by
  refine (g219_0).trans ?_
  simp only [h8, hc, if_true, cn_r]
  exact g219_17
theorem w219_E2 {σ σ' : Mem} {i1 i2 i3 : Int32} (h8 : tkM σ 8 = (1, 4)) (hc : DoM 77 [.ref 8, .int i1, .int i2, .int i3] σ = some (.inr 2, σ')) : DoM 219 [.ref 8, .int i1, .int i2, .int i3, .ref 193] σ = some (.inl (some (.int (nQ 2))), σ') := by
  refine (g219_0).trans ?_
  simp only [h8, hc, if_true, cn_r]
  exact g219_21
theorem w220_r {σ σ' : Mem} {i1 : Int32} (h8 : tkM σ 8 = (1, 4)) (ht : tkM σ' 193 = (5, 1)) {v : Int32} (hc : DoM 79 [.ref 8, .int i1] σ = some (.inl (some (.int v)), σ')) : DoM 220 [.ref 8, .int i1, .ref 193] σ = some (.inl (some (.int (nQ 0))), wrM σ' 193 0 v) := by
  refine (g220_0).trans ?_
  simp (disch := omega) only [aOk, eq_self, tk_sB, pr_sB, tk_wr, pr_wr, nQ_nat, nQ_neg, nQ_add, nQ_mul, nQ_lt, leF, ltT, ltF, rd_sB, rd_sB0, wr_sB, wr_sB0, cn_l, cn_r, Option.toList, List.cons_append, List.nil_append, if_true, if_false, true_and, and_true, or_false, false_or, true_or, or_true, not_false_eq_true, not_true_eq_false, and_false, false_and, zb_0, zb_1, q10, h8, hc, ht, Int32.toInt32_toInt64, g220_7, g220_9]
theorem w220_E1 {σ σ' : Mem} {i1 : Int32} (h8 : tkM σ 8 = (1, 4)) (hc : DoM 79 [.ref 8, .int i1] σ = some (.inr 1, σ')) : DoM 220 [.ref 8, .int i1, .ref 193] σ = some (.inl (some (.int (nQ 1))), σ') := by
  refine (g220_0).trans ?_
  simp only [h8, hc, if_true, cn_r]
  exact g220_13
theorem w221_r {σ σ' : Mem} {i1 : Int32} (h8 : tkM σ 8 = (1, 4)) (ht : tkM σ' 193 = (5, 1)) {v : Int32} (hv : v = nQ 0 ∨ v = nQ 1) (hc : DoM 80 [.ref 8, .int i1] σ = some (.inl (some (.int v)), σ')) : DoM 221 [.ref 8, .int i1, .ref 193] σ = some (.inl (some (.int (nQ 0))), wrM σ' 193 0 v) := by
  have q0 : (0 : Int64).toInt32 = nQ 0 := by decide
  have q1 : (1 : Int64).toInt32 = nQ 1 := by decide
  have z0 : (nQ 0).toInt64 = 0 := by decide
  have z1 : (nQ 1).toInt64 = 1 := by decide
  refine (g221_0).trans ?_
  rcases hv with rfl | rfl <;> simp (disch := omega) only [aOk, eq_self, tk_sB, pr_sB, tk_wr, pr_wr, nQ_nat, nQ_neg, nQ_add, nQ_mul, nQ_lt, leF, ltT, ltF, rd_sB, rd_sB0, wr_sB, wr_sB0, cn_l, cn_r, Option.toList, List.cons_append, List.nil_append, if_true, if_false, true_and, and_true, or_false, false_or, true_or, or_true, not_false_eq_true, not_true_eq_false, and_false, false_and, zb_0, zb_1, q10, h8, hc, ht, q0, q1, z0, z1, g221_7, g221_15, g221_16]
theorem w221_E1 {σ σ' : Mem} {i1 : Int32} (h8 : tkM σ 8 = (1, 4)) (hc : DoM 80 [.ref 8, .int i1] σ = some (.inr 1, σ')) : DoM 221 [.ref 8, .int i1, .ref 193] σ = some (.inl (some (.int (nQ 1))), σ') := by
  refine (g221_0).trans ?_
  simp only [h8, hc, if_true, cn_r]
  exact g221_20
theorem w222_r {σ σ' : Mem} {i1 i2 : Int32} (h8 : tkM σ 8 = (1, 4)) (ht : tkM σ' 193 = (5, 1)) {v : Int32} (hc : DoM 83 [.ref 8, .int i1, .int i2] σ = some (.inl (some (.int v)), σ')) : DoM 222 [.ref 8, .int i1, .int i2, .ref 193] σ = some (.inl (some (.int (nQ 0))), wrM σ' 193 0 v) := by
  refine (g222_0).trans ?_
  simp (disch := omega) only [aOk, eq_self, tk_sB, pr_sB, tk_wr, pr_wr, nQ_nat, nQ_neg, nQ_add, nQ_mul, nQ_lt, leF, ltT, ltF, rd_sB, rd_sB0, wr_sB, wr_sB0, cn_l, cn_r, Option.toList, List.cons_append, List.nil_append, if_true, if_false, true_and, and_true, or_false, false_or, true_or, or_true, not_false_eq_true, not_true_eq_false, and_false, false_and, zb_0, zb_1, q10, h8, hc, ht, Int32.toInt32_toInt64, g222_8, g222_10]
theorem w222_E1 {σ σ' : Mem} {i1 i2 : Int32} (h8 : tkM σ 8 = (1, 4)) (hc : DoM 83 [.ref 8, .int i1, .int i2] σ = some (.inr 1, σ')) : DoM 222 [.ref 8, .int i1, .int i2, .ref 193] σ = some (.inl (some (.int (nQ 1))), σ') := by
  refine (g222_0).trans ?_
  simp only [h8, hc, if_true, cn_r]
  exact g222_15
theorem w222_E2 {σ σ' : Mem} {i1 i2 : Int32} (h8 : tkM σ 8 = (1, 4)) (hc : DoM 83 [.ref 8, .int i1, .int i2] σ = some (.inr 2, σ')) : DoM 222 [.ref 8, .int i1, .int i2, .ref 193] σ = some (.inl (some (.int (nQ 2))), σ') := by
  refine (g222_0).trans ?_
  simp only [h8, hc, if_true, cn_r]
  exact g222_19
