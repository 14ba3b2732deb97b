/-! The model's administration. -/
theorem kpL_lo (f : Nat → Int32) {i : Nat} (hi : i < 357) : ∀ k, kpL f k i = f i
  | 0 => rfl
  | k + 1 => by
    show cpK (kpL f k) (k + 2) (k + 1) 357 i = _
    exact (if_neg (by omega)).trans (kpL_lo f hi k)
theorem kp_lo (f : Nat → Int32) (c : Nat) {i : Nat} (hi : i < 357) : kpF f c i = f i := by
  unfold kpF
  split
  · exact (if_neg (by omega)).trans (kpL_lo f hi 5)
  · exact if_neg (by omega)
theorem q20 : (nQ 2 = nQ 0) = False := by rw [nQ_eq (by decide) (by decide)]; simp
section Mi
variable {σ : Mem} {b : Nat} {d : Nat → Nat → Int32}
theorem mk133 (h : ShM σ b) {c : Nat} (hc : d 0 2 = nQ c) (h6 : c ≤ 6) : DoM 133 [.ref b] (sB 7 σ b (thF d 0)) = some (.inl none, sB 7 σ b (kdF d c)) := m133 (d := thF d 0) h hc h6
theorem kd_1 (d : Nat → Nat → Int32) (c : Nat) : kdF d c 1 = kpF (d 1) c := rfl
theorem m139_1 (h : ShM σ b) {v w : Int32} (hx : ¬ inP v (nQ 0) (nQ 1)) : DoM 139 [.ref b, .int v, .int w] (sB 7 σ b d) = some (.inl (some (.int (nQ 0))), sB 7 σ b (thF d 1)) := by
  have h0 := h.2.1
  refine (g139_0).trans ?_
  simp (disch := omega) only [m106, if_z, eq_false hx, aOk, eq_self, tk_sB, pr_sB, tk_wr, pr_wr, nQ_nat, nQ_neg, nQ_add, nQ_mul, nQ_lt, leF, ltT, ltF, rd_sB, rd_sB0, wr_sB, wr_sB0, cn_l, cn_r, Option.toList, List.cons_append, List.nil_append, if_true, if_false, true_and, and_true, or_false, false_or, true_or, or_true, not_false_eq_true, not_true_eq_false, and_false, false_and, zb_0, zb_1, q10, h0, m107 h, g139_7, g139_21, g139_29, g139_32, g139_41, g139_59]
theorem m139_2 (h : ShM σ b) {v w : Int32} (hx : inP v (nQ 0) (nQ 1)) (hy : ¬ inP w (nQ 1) (nQ 60)) : DoM 139 [.ref b, .int v, .int w] (sB 7 σ b d) = some (.inl (some (.int (nQ 0))), sB 7 σ b (thF d 2)) := by
  have h0 := h.2.1
  refine (g139_0).trans ?_
  simp (disch := omega) only [m106, if_z, eq_true hx, eq_false hy, aOk, eq_self, tk_sB, pr_sB, tk_wr, pr_wr, nQ_nat, nQ_neg, nQ_add, nQ_mul, nQ_lt, leF, ltT, ltF, rd_sB, rd_sB0, wr_sB, wr_sB0, cn_l, cn_r, Option.toList, List.cons_append, List.nil_append, if_true, if_false, true_and, and_true, or_false, false_or, true_or, or_true, not_false_eq_true, not_true_eq_false, and_false, false_and, zb_0, zb_1, q10, h0, q20, m107 h, g139_7, g139_21, g139_29, g139_32, g139_41, g139_59]
theorem m139_0 (h : ShM σ b) {c : Nat} (hc : d 0 2 = nQ c) (h6 : c ≤ 6) {r : Nat} (hr : r < 2) {w : Int32} (hy : inP w (nQ 1) (nQ 60)) : DoM 139 [.ref b, .int (nQ r), .int w] (sB 7 σ b d) = some (.inl (some (.int (d 1 (1 + r)))), sB 7 σ b (rX (kdF d c) 1 (up (kpF (d 1) c) (1 + r) w))) := by
  obtain ⟨h8, h0, ⟨p1, p2, p3, p4, p5, p6⟩, t1, t2, t3, t4, t5, t6⟩ := id h
  have hb : 8 ≤ b + 1 := by omega
  have hx : inP (nQ r) (nQ 0) (nQ 1) = True := eq_true (in_Q (by omega) (by decide))
  refine (g139_0).trans ?_
  simp (disch := omega) only [m106, if_z, hx, eq_true hy, aOk, eq_self, tk_sB, pr_sB, tk_wr, pr_wr, nQ_nat, nQ_neg, nQ_add, nQ_mul, nQ_lt, leF, ltT, ltF, rd_sB, rd_sB0, wr_sB, wr_sB0, cn_l, cn_r, Option.toList, List.cons_append, List.nil_append, if_true, if_false, true_and, and_true, or_false, false_or, true_or, or_true, not_false_eq_true, not_true_eq_false, and_false, false_and, zb_0, zb_1, q10, h0, q10, m107 h, g139_7, g139_21, g139_29]
  rw [g139_32]
  simp (disch := omega) only [aOk, eq_self, tk_sB, pr_sB, tk_wr, pr_wr, nQ_nat, nQ_neg, nQ_add, nQ_mul, nQ_lt, leF, ltT, ltF, rd_sB, rd_sB0, wr_sB, wr_sB0, cn_l, cn_r, Option.toList, List.cons_append, List.nil_append, if_true, if_false, true_and, and_true, or_false, false_or, true_or, or_true, not_false_eq_true, not_true_eq_false, and_false, false_and, zb_0, zb_1, q10, h0, q10, mk133 h hc h6]
  rw [g139_41]
  simp (disch := omega) only [aOk, eq_self, tk_sB, pr_sB, tk_wr, pr_wr, nQ_nat, nQ_neg, nQ_add, nQ_mul, nQ_lt, leF, ltT, ltF, rd_sB, rd_sB0, wr_sB, wr_sB0, cn_l, cn_r, Option.toList, List.cons_append, List.nil_append, if_true, if_false, true_and, and_true, or_false, false_or, true_or, or_true, not_false_eq_true, not_true_eq_false, and_false, false_and, zb_0, zb_1, q10, h0, p1, t1, hb, kd_1, kp_lo, g139_59]
theorem m142_1 (h : ShM σ b) {v : Int32} (hx : ¬ inP v (nQ 1) (nQ 100)) : DoM 142 [.ref b, .int v] (sB 7 σ b d) = some (.inl (some (.int (nQ 0))), sB 7 σ b (thF d 1)) := by
  have h0 := h.2.1
  refine (g142_0).trans ?_
  simp (disch := omega) only [m106, if_z, eq_false hx, aOk, eq_self, tk_sB, pr_sB, tk_wr, pr_wr, nQ_nat, nQ_neg, nQ_add, nQ_mul, nQ_lt, leF, ltT, ltF, rd_sB, rd_sB0, wr_sB, wr_sB0, cn_l, cn_r, Option.toList, List.cons_append, List.nil_append, if_true, if_false, true_and, and_true, or_false, false_or, true_or, or_true, not_false_eq_true, not_true_eq_false, and_false, false_and, zb_0, zb_1, q10, h0, m107 h, g142_8, g142_34, g142_37, g142_46, g142_51]
theorem m142_2 (h : ShM σ b) {v : Int32} (hx : inP v (nQ 1) (nQ 100)) (hy : nQ 10000 < d 1 0 + v) : DoM 142 [.ref b, .int v] (sB 7 σ b d) = some (.inl (some (.int (nQ 0))), sB 7 σ b (thF d 2)) := by
  obtain ⟨h8, h0, ⟨p1, p2, p3, p4, p5, p6⟩, t1, t2, t3, t4, t5, t6⟩ := id h
  refine (g142_0).trans ?_
  simp (disch := omega) only [m106, if_z, eq_true hx, eq_true hy, aOk, eq_self, tk_sB, pr_sB, tk_wr, pr_wr, nQ_nat, nQ_neg, nQ_add, nQ_mul, nQ_lt, leF, ltT, ltF, rd_sB, rd_sB0, wr_sB, wr_sB0, cn_l, cn_r, Option.toList, List.cons_append, List.nil_append, if_true, if_false, true_and, and_true, or_false, false_or, true_or, or_true, not_false_eq_true, not_true_eq_false, and_false, false_and, zb_0, zb_1, q10, h0, p1, t1, q10, q20, m107 h, g142_8, g142_34, g142_37, g142_46, g142_51]
theorem m142_0 (h : ShM σ b) {c : Nat} (hc : d 0 2 = nQ c) (h6 : c ≤ 6) {z : Nat} (h1 : 1 ≤ z) (h2 : z ≤ 100) (hy : ¬ nQ 10000 < d 1 0 + nQ z) : DoM 142 [.ref b, .int (nQ z)] (sB 7 σ b d) = some (.inl (some (.int (nQ (dyC (kpF (d 1) c) z)))), sB 7 σ b (rX (kdF d c) 1 (dyR (kpF (d 1) c) z))) := by
  obtain ⟨h8, h0, ⟨p1, p2, p3, p4, p5, p6⟩, t1, t2, t3, t4, t5, t6⟩ := id h
  have hx : inP (nQ z) (nQ 1) (nQ 100) = True := eq_true ⟨by rw [nQ_lt (by omega) (by omega)]; omega, by rw [nQ_lt (by omega) (by omega)]; omega⟩
  have e : DoM 131 [.ref b, .int (nQ z)] (sB 7 σ b (kdF d c)) = some (.inl (some (.int (nQ (dyC (kpF (d 1) c) z)))), sB 7 σ b (rX (kdF d c) 1 (dyR (kpF (d 1) c) z))) := m131 (d := kdF d c) h h2
  refine (g142_0).trans ?_
  simp (disch := omega) only [m106, if_z, hx, eq_false hy, aOk, eq_self, tk_sB, pr_sB, nQ_nat, nQ_neg, leF, rd_sB, cn_l, Option.toList, List.cons_append, List.nil_append, if_true, if_false, true_and, and_true, or_false, false_or, not_true_eq_false, not_false_eq_true, h0, p1, t1, q10, m107 h, g142_8, g142_34]
  rw [g142_37]
  simp (disch := omega) only [aOk, eq_self, tk_sB, pr_sB, tk_wr, pr_wr, nQ_nat, nQ_neg, nQ_add, nQ_mul, nQ_lt, leF, ltT, ltF, rd_sB, rd_sB0, wr_sB, wr_sB0, cn_l, cn_r, Option.toList, List.cons_append, List.nil_append, if_true, if_false, true_and, and_true, or_false, false_or, true_or, or_true, not_false_eq_true, not_true_eq_false, and_false, false_and, zb_0, zb_1, q10, h0, q10, mk133 h hc h6]
  rw [g142_46]
  simp (disch := omega) only [aOk, eq_self, tk_sB, pr_sB, tk_wr, pr_wr, nQ_nat, nQ_neg, nQ_add, nQ_mul, nQ_lt, leF, ltT, ltF, rd_sB, rd_sB0, wr_sB, wr_sB0, cn_l, cn_r, Option.toList, List.cons_append, List.nil_append, if_true, if_false, true_and, and_true, or_false, false_or, true_or, or_true, not_false_eq_true, not_true_eq_false, and_false, false_and, zb_0, zb_1, q10, h0, e, g142_51]
end Mi
