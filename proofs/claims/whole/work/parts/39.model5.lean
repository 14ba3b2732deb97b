/-! The model's queries. -/
theorem in_Q {a N : Nat} (h1 : a ≤ N) (h2 : N ≤ 5000) : inP (nQ a) (nQ 0) (nQ N) := ⟨by rw [nQ_lt (by omega) (by omega)]; omega, by rw [nQ_lt (by omega) (by omega)]; omega⟩
theorem rX_0 (d : Nat → Nat → Int32) (f : Nat → Int32) : rX d 0 f 1 = d 1 := rfl
section Mh
variable {σ : Mem} {b : Nat} {d : Nat → Nat → Int32}
theorem m157_1 (h : ShM σ b) {v w : Int32} (hx : ¬ (inP v (nQ 0) (nQ 8) ∧ inP w (nQ 0) (nQ 1))) : DoM 157 [.ref b, .int v, .int w] (sB 7 σ b d) = some (.inl (some (.int (nQ 0))), sB 7 σ b (thF d 1)) := by
  have h0 := h.2.1
  refine (g157_0).trans ?_
  simp (disch := omega) only [m111, if_z, eq_false hx, aOk, eq_self, tk_sB, pr_sB, tk_wr, pr_wr, nQ_nat, nQ_neg, nQ_add, nQ_mul, nQ_lt, leF, ltT, ltF, rd_sB, rd_sB0, wr_sB, wr_sB0, cn_l, cn_r, Option.toList, List.cons_append, List.nil_append, if_true, if_false, true_and, and_true, or_false, false_or, true_or, or_true, not_false_eq_true, not_true_eq_false, and_false, false_and, zb_0, zb_1, q10, h0, m107 h, g157_6, g157_14, g157_17, g157_26, g157_30]
theorem m157_0 (h : ShM σ b) {n : Nat} (hn : d 1 4 = nQ n) (h60 : n ≤ 60) {a r : Nat} (ha : a < 9) (hr : r < 2) : DoM 157 [.ref b, .int (nQ a), .int (nQ r)] (sB 7 σ b d) = some (.inl (some (.int (usF (d 1) (nQ a) r n))), sB 7 σ b (thF d 0)) := by
  obtain ⟨h8, h0, ⟨p1, p2, p3, p4, p5, p6⟩, t1, t2, t3, t4, t5, t6⟩ := id h
  have hx : (inP (nQ a) (nQ 0) (nQ 8) ∧ inP (nQ r) (nQ 0) (nQ 1)) = True := eq_true ⟨in_Q (by omega) (by decide), in_Q (by omega) (by decide)⟩
  have e := m116 (d := thF d 0) h hn h60 (nQ a) hr
  refine (g157_0).trans ?_
  simp (disch := omega) only [m111, if_z, hx, aOk, eq_self, tk_sB, pr_sB, tk_wr, pr_wr, nQ_nat, nQ_neg, nQ_add, nQ_mul, nQ_lt, leF, ltT, ltF, rd_sB, rd_sB0, wr_sB, wr_sB0, cn_l, cn_r, Option.toList, List.cons_append, List.nil_append, if_true, if_false, true_and, and_true, or_false, false_or, true_or, or_true, not_false_eq_true, not_true_eq_false, and_false, false_and, zb_0, zb_1, q10, h0, q10, m107 h, e, rX_0, g157_6, g157_14, g157_17, g157_26, g157_30]
theorem m158_1 (h : ShM σ b) {v w : Int32} (hx : ¬ (inP v (nQ 0) (nQ 8) ∧ inP w (nQ 0) (nQ 1))) : DoM 158 [.ref b, .int v, .int w] (sB 7 σ b d) = some (.inl (some (.int (nQ 0))), sB 7 σ b (thF d 1)) := by
  have h0 := h.2.1
  refine (g158_0).trans ?_
  simp (disch := omega) only [m111, if_z, eq_false hx, aOk, eq_self, tk_sB, pr_sB, tk_wr, pr_wr, nQ_nat, nQ_neg, nQ_add, nQ_mul, nQ_lt, leF, ltT, ltF, rd_sB, rd_sB0, wr_sB, wr_sB0, cn_l, cn_r, Option.toList, List.cons_append, List.nil_append, if_true, if_false, true_and, and_true, or_false, false_or, true_or, or_true, not_false_eq_true, not_true_eq_false, and_false, false_and, zb_0, zb_1, q10, h0, m107 h, g158_6, g158_14, g158_17, g158_26, g158_30]
theorem m158_0 (h : ShM σ b) {n : Nat} (hn : d 1 4 = nQ n) (h60 : n ≤ 60) {a r : Nat} (ha : a < 9) (hr : r < 2) : DoM 158 [.ref b, .int (nQ a), .int (nQ r)] (sB 7 σ b d) = some (.inl (some (.int (usF (d 1) (nQ a) r n))), sB 7 σ b (thF d 0)) := by
  obtain ⟨h8, h0, ⟨p1, p2, p3, p4, p5, p6⟩, t1, t2, t3, t4, t5, t6⟩ := id h
  have hx : (inP (nQ a) (nQ 0) (nQ 8) ∧ inP (nQ r) (nQ 0) (nQ 1)) = True := eq_true ⟨in_Q (by omega) (by decide), in_Q (by omega) (by decide)⟩
  have e := m116 (d := thF d 0) h hn h60 (nQ a) hr
  refine (g158_0).trans ?_
  simp (disch := omega) only [m111, if_z, hx, aOk, eq_self, tk_sB, pr_sB, tk_wr, pr_wr, nQ_nat, nQ_neg, nQ_add, nQ_mul, nQ_lt, leF, ltT, ltF, rd_sB, rd_sB0, wr_sB, wr_sB0, cn_l, cn_r, Option.toList, List.cons_append, List.nil_append, if_true, if_false, true_and, and_true, or_false, false_or, true_or, or_true, not_false_eq_true, not_true_eq_false, and_false, false_and, zb_0, zb_1, q10, h0, q10, m107 h, e, rX_0, g158_6, g158_14, g158_17, g158_26, g158_30]
theorem m159_1 (h : ShM σ b) {v w : Int32} (hx : ¬ (inP v (nQ 0) (nQ 8) ∧ inP w (nQ 0) (nQ 1))) : DoM 159 [.ref b, .int v, .int w] (sB 7 σ b d) = some (.inl (some (.int (nQ 0))), sB 7 σ b (thF d 1)) := by
  have h0 := h.2.1
  refine (g159_0).trans ?_
  simp (disch := omega) only [m111, if_z, eq_false hx, aOk, eq_self, tk_sB, pr_sB, tk_wr, pr_wr, nQ_nat, nQ_neg, nQ_add, nQ_mul, nQ_lt, leF, ltT, ltF, rd_sB, rd_sB0, wr_sB, wr_sB0, cn_l, cn_r, Option.toList, List.cons_append, List.nil_append, if_true, if_false, true_and, and_true, or_false, false_or, true_or, or_true, not_false_eq_true, not_true_eq_false, and_false, false_and, zb_0, zb_1, q10, h0, m107 h, g159_6, g159_14, g159_17, g159_38]
theorem m159_0 (h : ShM σ b) {a r : Nat} (ha : a < 9) (hr : r < 2) : DoM 159 [.ref b, .int (nQ a), .int (nQ r)] (sB 7 σ b d) = some (.inl (some (.int (d 1 (245 + 2 * a + r)))), sB 7 σ b (thF d 0)) := by
  obtain ⟨h8, h0, ⟨p1, p2, p3, p4, p5, p6⟩, t1, t2, t3, t4, t5, t6⟩ := id h
  have hx : (inP (nQ a) (nQ 0) (nQ 8) ∧ inP (nQ r) (nQ 0) (nQ 1)) = True := eq_true ⟨in_Q (by omega) (by decide), in_Q (by omega) (by decide)⟩
  refine (g159_0).trans ?_
  simp (disch := omega) only [m111, if_z, hx, aOk, eq_self, tk_sB, pr_sB, tk_wr, pr_wr, nQ_nat, nQ_neg, nQ_add, nQ_mul, nQ_lt, leF, ltT, ltF, rd_sB, rd_sB0, wr_sB, wr_sB0, cn_l, cn_r, Option.toList, List.cons_append, List.nil_append, if_true, if_false, true_and, and_true, or_false, false_or, true_or, or_true, not_false_eq_true, not_true_eq_false, and_false, false_and, zb_0, zb_1, q10, h0, p1, t1, q10, m107 h, rX_0, g159_6, g159_14, g159_17, g159_38]
theorem m160_1 (h : ShM σ b) {v w : Int32} (hx : ¬ (inP v (nQ 0) (nQ 8) ∧ inP w (nQ 0) (nQ 1))) : DoM 160 [.ref b, .int v, .int w] (sB 7 σ b d) = some (.inl (some (.int (nQ 0))), sB 7 σ b (thF d 1)) := by
  have h0 := h.2.1
  refine (g160_0).trans ?_
  simp (disch := omega) only [m111, if_z, eq_false hx, aOk, eq_self, tk_sB, pr_sB, tk_wr, pr_wr, nQ_nat, nQ_neg, nQ_add, nQ_mul, nQ_lt, leF, ltT, ltF, rd_sB, rd_sB0, wr_sB, wr_sB0, cn_l, cn_r, Option.toList, List.cons_append, List.nil_append, if_true, if_false, true_and, and_true, or_false, false_or, true_or, or_true, not_false_eq_true, not_true_eq_false, and_false, false_and, zb_0, zb_1, q10, h0, m107 h, g160_6, g160_14, g160_17, g160_38]
theorem m160_0 (h : ShM σ b) {a r : Nat} (ha : a < 9) (hr : r < 2) : DoM 160 [.ref b, .int (nQ a), .int (nQ r)] (sB 7 σ b d) = some (.inl (some (.int (d 1 (263 + 2 * a + r)))), sB 7 σ b (thF d 0)) := by
  obtain ⟨h8, h0, ⟨p1, p2, p3, p4, p5, p6⟩, t1, t2, t3, t4, t5, t6⟩ := id h
  have hx : (inP (nQ a) (nQ 0) (nQ 8) ∧ inP (nQ r) (nQ 0) (nQ 1)) = True := eq_true ⟨in_Q (by omega) (by decide), in_Q (by omega) (by decide)⟩
  refine (g160_0).trans ?_
  simp (disch := omega) only [m111, if_z, hx, aOk, eq_self, tk_sB, pr_sB, tk_wr, pr_wr, nQ_nat, nQ_neg, nQ_add, nQ_mul, nQ_lt, leF, ltT, ltF, rd_sB, rd_sB0, wr_sB, wr_sB0, cn_l, cn_r, Option.toList, List.cons_append, List.nil_append, if_true, if_false, true_and, and_true, or_false, false_or, true_or, or_true, not_false_eq_true, not_true_eq_false, and_false, false_and, zb_0, zb_1, q10, h0, p1, t1, q10, m107 h, rX_0, g160_6, g160_14, g160_17, g160_38]
theorem m161_1 (h : ShM σ b) {v w : Int32} (hx : ¬ (inP v (nQ 0) (nQ 8) ∧ inP w (nQ 0) (nQ 1))) : DoM 161 [.ref b, .int v, .int w] (sB 7 σ b d) = some (.inl (some (.int (nQ 0))), sB 7 σ b (thF d 1)) := by
  have h0 := h.2.1
  refine (g161_0).trans ?_
  simp (disch := omega) only [m111, if_z, eq_false hx, aOk, eq_self, tk_sB, pr_sB, tk_wr, pr_wr, nQ_nat, nQ_neg, nQ_add, nQ_mul, nQ_lt, leF, ltT, ltF, rd_sB, rd_sB0, wr_sB, wr_sB0, cn_l, cn_r, Option.toList, List.cons_append, List.nil_append, if_true, if_false, true_and, and_true, or_false, false_or, true_or, or_true, not_false_eq_true, not_true_eq_false, and_false, false_and, zb_0, zb_1, q10, h0, m107 h, g161_6, g161_14, g161_17, g161_38]
theorem m161_0 (h : ShM σ b) {a r : Nat} (ha : a < 9) (hr : r < 2) : DoM 161 [.ref b, .int (nQ a), .int (nQ r)] (sB 7 σ b d) = some (.inl (some (.int (d 1 (281 + 2 * a + r)))), sB 7 σ b (thF d 0)) := by
  obtain ⟨h8, h0, ⟨p1, p2, p3, p4, p5, p6⟩, t1, t2, t3, t4, t5, t6⟩ := id h
  have hx : (inP (nQ a) (nQ 0) (nQ 8) ∧ inP (nQ r) (nQ 0) (nQ 1)) = True := eq_true ⟨in_Q (by omega) (by decide), in_Q (by omega) (by decide)⟩
  refine (g161_0).trans ?_
  simp (disch := omega) only [m111, if_z, hx, aOk, eq_self, tk_sB, pr_sB, tk_wr, pr_wr, nQ_nat, nQ_neg, nQ_add, nQ_mul, nQ_lt, leF, ltT, ltF, rd_sB, rd_sB0, wr_sB, wr_sB0, cn_l, cn_r, Option.toList, List.cons_append, List.nil_append, if_true, if_false, true_and, and_true, or_false, false_or, true_or, or_true, not_false_eq_true, not_true_eq_false, and_false, false_and, zb_0, zb_1, q10, h0, p1, t1, q10, m107 h, rX_0, g161_6, g161_14, g161_17, g161_38]
theorem m173 (h : ShM σ b) : DoM 173 [.ref b] (sB 7 σ b d) = some (.inl (some (.int (d 1 4))), sB 7 σ b (thF d 0)) := by
  obtain ⟨h8, h0, ⟨p1, p2, p3, p4, p5, p6⟩, t1, t2, t3, t4, t5, t6⟩ := id h
  refine (g173_0).trans ?_
  simp (disch := omega) only [aOk, eq_self, tk_sB, pr_sB, tk_wr, pr_wr, nQ_nat, nQ_neg, nQ_add, nQ_mul, nQ_lt, leF, ltT, ltF, rd_sB, rd_sB0, wr_sB, wr_sB0, cn_l, cn_r, Option.toList, List.cons_append, List.nil_append, if_true, if_false, true_and, and_true, or_false, false_or, true_or, or_true, not_false_eq_true, not_true_eq_false, and_false, false_and, zb_0, zb_1, q10, h0, p1, t1, rX_0, rX_s, up_n, g173_5]
theorem m180 (h : ShM σ b) : DoM 180 [.ref b] (sB 7 σ b d) = some (.inl (some (.int (d 1 0))), sB 7 σ b (thF d 0)) := by
  obtain ⟨h8, h0, ⟨p1, p2, p3, p4, p5, p6⟩, t1, t2, t3, t4, t5, t6⟩ := id h
  refine (g180_0).trans ?_
  simp (disch := omega) only [aOk, eq_self, tk_sB, pr_sB, tk_wr, pr_wr, nQ_nat, nQ_neg, nQ_add, nQ_mul, nQ_lt, leF, ltT, ltF, rd_sB, rd_sB0, wr_sB, wr_sB0, cn_l, cn_r, Option.toList, List.cons_append, List.nil_append, if_true, if_false, true_and, and_true, or_false, false_or, true_or, or_true, not_false_eq_true, not_true_eq_false, and_false, false_and, zb_0, zb_1, q10, h0, p1, t1, rX_0, rX_s, up_n, g180_5]
theorem m187 (h : ShM σ b) : DoM 187 [.ref b] (sB 7 σ b d) = some (.inl (some (.int (d 1 308))), sB 7 σ b (thF d 0)) := by
  obtain ⟨h8, h0, ⟨p1, p2, p3, p4, p5, p6⟩, t1, t2, t3, t4, t5, t6⟩ := id h
  refine (g187_0).trans ?_
  simp (disch := omega) only [aOk, eq_self, tk_sB, pr_sB, tk_wr, pr_wr, nQ_nat, nQ_neg, nQ_add, nQ_mul, nQ_lt, leF, ltT, ltF, rd_sB, rd_sB0, wr_sB, wr_sB0, cn_l, cn_r, Option.toList, List.cons_append, List.nil_append, if_true, if_false, true_and, and_true, or_false, false_or, true_or, or_true, not_false_eq_true, not_true_eq_false, and_false, false_and, zb_0, zb_1, q10, h0, p1, t1, rX_0, rX_s, up_n, g187_5]
theorem m188 (h : ShM σ b) : DoM 188 [.ref b] (sB 7 σ b d) = some (.inl (some (.int (d 0 2))), sB 7 σ b (thF d 0)) := by
  obtain ⟨h8, h0, ⟨p1, p2, p3, p4, p5, p6⟩, t1, t2, t3, t4, t5, t6⟩ := id h
  refine (g188_0).trans ?_
  simp (disch := omega) only [aOk, eq_self, tk_sB, pr_sB, tk_wr, pr_wr, nQ_nat, nQ_neg, nQ_add, nQ_mul, nQ_lt, leF, ltT, ltF, rd_sB, rd_sB0, wr_sB, wr_sB0, cn_l, cn_r, Option.toList, List.cons_append, List.nil_append, if_true, if_false, true_and, and_true, or_false, false_or, true_or, or_true, not_false_eq_true, not_true_eq_false, and_false, false_and, zb_0, zb_1, q10, h0, p1, t1, rX_0, rX_s, up_n, g188_5]
theorem m189 (h : ShM σ b) : DoM 189 [.ref b] (sB 7 σ b d) = some (.inl (some (.int (d 0 5))), sB 7 σ b (thF d 0)) := by
  obtain ⟨h8, h0, ⟨p1, p2, p3, p4, p5, p6⟩, t1, t2, t3, t4, t5, t6⟩ := id h
  refine (g189_0).trans ?_
  simp (disch := omega) only [aOk, eq_self, tk_sB, pr_sB, tk_wr, pr_wr, nQ_nat, nQ_neg, nQ_add, nQ_mul, nQ_lt, leF, ltT, ltF, rd_sB, rd_sB0, wr_sB, wr_sB0, cn_l, cn_r, Option.toList, List.cons_append, List.nil_append, if_true, if_false, true_and, and_true, or_false, false_or, true_or, or_true, not_false_eq_true, not_true_eq_false, and_false, false_and, zb_0, zb_1, q10, h0, p1, t1, rX_0, rX_s, up_n, g189_5]
theorem m164_1 (h : ShM σ b) {v : Int32} (hx : ¬ inP v (nQ 0) (nQ 8)) : DoM 164 [.ref b, .int v] (sB 7 σ b d) = some (.inl (some (.int (nQ 0))), sB 7 σ b (thF d 1)) := by
  have h0 := h.2.1
  refine (g164_0).trans ?_
  simp (disch := omega) only [m106, if_z, eq_false hx, aOk, eq_self, tk_sB, pr_sB, tk_wr, pr_wr, nQ_nat, nQ_neg, nQ_add, nQ_mul, nQ_lt, leF, ltT, ltF, rd_sB, rd_sB0, wr_sB, wr_sB0, cn_l, cn_r, Option.toList, List.cons_append, List.nil_append, if_true, if_false, true_and, and_true, or_false, false_or, true_or, or_true, not_false_eq_true, not_true_eq_false, and_false, false_and, zb_0, zb_1, q10, h0, m107 h, g164_8, g164_16, g164_19, g164_36]
theorem m164_0 (h : ShM σ b) {a : Nat} (ha : a < 9) : DoM 164 [.ref b, .int (nQ a)] (sB 7 σ b d) = some (.inl (some (.int (d 1 (299 + a)))), sB 7 σ b (thF d 0)) := by
  obtain ⟨h8, h0, ⟨p1, p2, p3, p4, p5, p6⟩, t1, t2, t3, t4, t5, t6⟩ := id h
  have hx : inP (nQ a) (nQ 0) (nQ 8) = True := eq_true (in_Q (by omega) (by decide))
  refine (g164_0).trans ?_
  simp (disch := omega) only [m106, if_z, hx, aOk, eq_self, tk_sB, pr_sB, tk_wr, pr_wr, nQ_nat, nQ_neg, nQ_add, nQ_mul, nQ_lt, leF, ltT, ltF, rd_sB, rd_sB0, wr_sB, wr_sB0, cn_l, cn_r, Option.toList, List.cons_append, List.nil_append, if_true, if_false, true_and, and_true, or_false, false_or, true_or, or_true, not_false_eq_true, not_true_eq_false, and_false, false_and, zb_0, zb_1, q10, h0, p1, t1, q10, m107 h, rX_0, g164_8, g164_16, g164_19, g164_36]
theorem m181_1 (h : ShM σ b) {v : Int32} (hx : ¬ inP v (nQ 0) (nQ 1)) : DoM 181 [.ref b, .int v] (sB 7 σ b d) = some (.inl (some (.int (nQ 0))), sB 7 σ b (thF d 1)) := by
  have h0 := h.2.1
  refine (g181_0).trans ?_
  simp (disch := omega) only [m106, if_z, eq_false hx, aOk, eq_self, tk_sB, pr_sB, tk_wr, pr_wr, nQ_nat, nQ_neg, nQ_add, nQ_mul, nQ_lt, leF, ltT, ltF, rd_sB, rd_sB0, wr_sB, wr_sB0, cn_l, cn_r, Option.toList, List.cons_append, List.nil_append, if_true, if_false, true_and, and_true, or_false, false_or, true_or, or_true, not_false_eq_true, not_true_eq_false, and_false, false_and, zb_0, zb_1, q10, h0, m107 h, g181_7, g181_15, g181_18, g181_33]
theorem m181_0 (h : ShM σ b) {a : Nat} (ha : a < 2) : DoM 181 [.ref b, .int (nQ a)] (sB 7 σ b d) = some (.inl (some (.int (d 1 (1 + a)))), sB 7 σ b (thF d 0)) := by
  obtain ⟨h8, h0, ⟨p1, p2, p3, p4, p5, p6⟩, t1, t2, t3, t4, t5, t6⟩ := id h
  have hx : inP (nQ a) (nQ 0) (nQ 1) = True := eq_true (in_Q (by omega) (by decide))
  refine (g181_0).trans ?_
  simp (disch := omega) only [m106, if_z, hx, aOk, eq_self, tk_sB, pr_sB, tk_wr, pr_wr, nQ_nat, nQ_neg, nQ_add, nQ_mul, nQ_lt, leF, ltT, ltF, rd_sB, rd_sB0, wr_sB, wr_sB0, cn_l, cn_r, Option.toList, List.cons_append, List.nil_append, if_true, if_false, true_and, and_true, or_false, false_or, true_or, or_true, not_false_eq_true, not_true_eq_false, and_false, false_and, zb_0, zb_1, q10, h0, p1, t1, q10, m107 h, rX_0, g181_7, g181_15, g181_18, g181_33]
end Mh
