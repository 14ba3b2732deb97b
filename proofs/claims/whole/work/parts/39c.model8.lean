/-! The model's public methods: limits, grace periods, exemptions, the text's buffer, undo and slots. -/
abbrev arP (s w : Int32) : Prop := inP s (nQ 0) (nQ 100000) ∧ inP w (nQ 0) (nQ 100000) ∧ (s = nQ 0 ∨ w = nQ 0 ∨ ¬ w < s)
theorem m138_a {σ : Mem} {b : Nat} (v w s z : Int32) : RuM 138 (0, [some (.ref b), some (.int v), some (.int w), some (.int s), some (.int z), none], [], 0, 0) σ = RuM 138 (41, [some (.ref b), some (.int v), some (.int w), some (.int s), some (.int z), none], [.int (if arP s z then nQ 1 else nQ 0)], 0, 0) σ := by
  refine (g138_0).trans ?_
  simp only [m106, arP, cn_l, Option.toList, List.cons_append, List.nil_append, g138_7, if_z]
  rcases Classical.propComplete (inP s (nQ 0) (nQ 100000)) with e1 | e1
  · rcases Classical.propComplete (inP z (nQ 0) (nQ 100000)) with e2 | e2
    · simp only [e1, e2, aOk, eq_self, tk_sB, pr_sB, tk_wr, pr_wr, nQ_nat, nQ_neg, nQ_add, nQ_mul, nQ_lt, leF, ltT, ltF, rd_sB, rd_sB0, wr_sB, wr_sB0, cn_l, cn_r, Option.toList, List.cons_append, List.nil_append, if_true, if_false, true_and, and_true, or_false, false_or, true_or, or_true, not_false_eq_true, not_true_eq_false, and_false, false_and, zb_0, zb_1, q10, g138_18, if_z]
      by_cases h3 : s = nQ 0 <;> by_cases h4 : z = nQ 0 <;> by_cases h5 : z < s <;> simp only [h3, h4, h5, aOk, eq_self, tk_sB, pr_sB, tk_wr, pr_wr, nQ_nat, nQ_neg, nQ_add, nQ_mul, nQ_lt, leF, ltT, ltF, rd_sB, rd_sB0, wr_sB, wr_sB0, cn_l, cn_r, Option.toList, List.cons_append, List.nil_append, if_true, if_false, true_and, and_true, or_false, false_or, true_or, or_true, not_false_eq_true, not_true_eq_false, and_false, false_and, zb_0, zb_1, q10, g138_36, g138_40] <;> simp only [← h3, h5, aOk, eq_self, tk_sB, pr_sB, tk_wr, pr_wr, nQ_nat, nQ_neg, nQ_add, nQ_mul, nQ_lt, leF, ltT, ltF, rd_sB, rd_sB0, wr_sB, wr_sB0, cn_l, cn_r, Option.toList, List.cons_append, List.nil_append, if_true, if_false, true_and, and_true, or_false, false_or, true_or, or_true, not_false_eq_true, not_true_eq_false, and_false, false_and, zb_0, zb_1, q10, g138_36, g138_40]
    · simp only [e1, e2, aOk, eq_self, tk_sB, pr_sB, tk_wr, pr_wr, nQ_nat, nQ_neg, nQ_add, nQ_mul, nQ_lt, leF, ltT, ltF, rd_sB, rd_sB0, wr_sB, wr_sB0, cn_l, cn_r, Option.toList, List.cons_append, List.nil_append, if_true, if_false, true_and, and_true, or_false, false_or, true_or, or_true, not_false_eq_true, not_true_eq_false, and_false, false_and, zb_0, zb_1, q10, g138_18, g138_40, if_z]
  · simp only [e1, aOk, eq_self, tk_sB, pr_sB, tk_wr, pr_wr, nQ_nat, nQ_neg, nQ_add, nQ_mul, nQ_lt, leF, ltT, ltF, rd_sB, rd_sB0, wr_sB, wr_sB0, cn_l, cn_r, Option.toList, List.cons_append, List.nil_append, if_true, if_false, true_and, and_true, or_false, false_or, true_or, or_true, not_false_eq_true, not_true_eq_false, and_false, false_and, zb_0, zb_1, q10, g138_40]
section Mk
variable {σ : Mem} {b : Nat} {d : Nat → Nat → Int32}
theorem m138_1 (h : ShM σ b) {v w s z : Int32} (hx : ¬ (inP v (nQ 0) (nQ 8) ∧ inP w (nQ 0) (nQ 1))) : DoM 138 [.ref b, .int v, .int w, .int s, .int z] (sB 7 σ b d) = some (.inl (some (.int (nQ 0))), sB 7 σ b (thF d 1)) := by
  have h0 := h.2.1
  refine (m138_a v w s z).trans ?_
  simp (disch := omega) only [m111, if_z, eq_false hx, aOk, eq_self, tk_sB, pr_sB, tk_wr, pr_wr, nQ_nat, nQ_neg, nQ_add, nQ_mul, nQ_lt, leF, ltT, ltF, rd_sB, rd_sB0, wr_sB, wr_sB0, cn_l, cn_r, Option.toList, List.cons_append, List.nil_append, if_true, if_false, true_and, and_true, or_false, false_or, true_or, or_true, not_false_eq_true, not_true_eq_false, and_false, false_and, zb_0, zb_1, q10, h0, m107 h, g138_41, g138_49, g138_66, g138_69]
theorem m138_2 (h : ShM σ b) {v w s z : Int32} (hx : inP v (nQ 0) (nQ 8) ∧ inP w (nQ 0) (nQ 1)) (hy : ¬ arP s z) : DoM 138 [.ref b, .int v, .int w, .int s, .int z] (sB 7 σ b d) = some (.inl (some (.int (nQ 0))), sB 7 σ b (thF d 2)) := by
  have h0 := h.2.1
  refine (m138_a v w s z).trans ?_
  rw [if_neg hy]
  simp (disch := omega) only [m111, if_z, eq_true hx, aOk, eq_self, tk_sB, pr_sB, tk_wr, pr_wr, nQ_nat, nQ_neg, nQ_add, nQ_mul, nQ_lt, leF, ltT, ltF, rd_sB, rd_sB0, wr_sB, wr_sB0, cn_l, cn_r, Option.toList, List.cons_append, List.nil_append, if_true, if_false, true_and, and_true, or_false, false_or, true_or, or_true, not_false_eq_true, not_true_eq_false, and_false, false_and, zb_0, zb_1, q10, h0, q20, m107 h, g138_41, g138_49, g138_66, g138_69]
def slF (f : Nat → Int32) (n a r : Nat) (s z : Int32) : Nat → Int32 := rvF (up (up f (245 + 2 * a + r) s) (263 + 2 * a + r) z) n a r
theorem m138_0 (h : ShM σ b) {n c : Nat} (hn : d 1 4 = nQ n) (h60 : n ≤ 60) (hc : d 0 2 = nQ c) (h6 : c ≤ 6) {a r : Nat} (ha : a < 9) (hr : r < 2) {s z : Int32} (hy : arP s z) : DoM 138 [.ref b, .int (nQ a), .int (nQ r), .int s, .int z] (sB 7 σ b d) = some (.inl (some (.int (usF (slF (kpF (d 1) c) n a r s z) (nQ a) r n))), sB 7 σ b (rX (kdF d c) 1 (slF (kpF (d 1) c) n a r s z))) := by
  obtain ⟨h8, h0, ⟨p1, p2, p3, p4, p5, p6⟩, t1, t2, t3, t4, t5, t6⟩ := id h
  have hb : 8 ≤ b + 1 := by omega
  have hx : (inP (nQ a) (nQ 0) (nQ 8) ∧ inP (nQ r) (nQ 0) (nQ 1)) = True := eq_true ⟨in_Q (by omega) (by decide), in_Q (by omega) (by decide)⟩
  refine (m138_a _ _ s z).trans ?_
  rw [if_pos hy]
  simp (disch := omega) only [m111, if_z, hx, aOk, eq_self, tk_sB, pr_sB, tk_wr, pr_wr, nQ_nat, nQ_neg, nQ_add, nQ_mul, nQ_lt, leF, ltT, ltF, rd_sB, rd_sB0, wr_sB, wr_sB0, cn_l, cn_r, Option.toList, List.cons_append, List.nil_append, if_true, if_false, true_and, and_true, or_false, false_or, true_or, or_true, not_false_eq_true, not_true_eq_false, and_false, false_and, zb_0, zb_1, q10, h0, m107 h, g138_41, g138_49, g138_66]
  rw [g138_69]
  simp (disch := omega) only [aOk, eq_self, tk_sB, pr_sB, tk_wr, pr_wr, nQ_nat, nQ_neg, nQ_add, nQ_mul, nQ_lt, leF, ltT, ltF, rd_sB, rd_sB0, wr_sB, wr_sB0, cn_l, cn_r, Option.toList, List.cons_append, List.nil_append, if_true, if_false, true_and, and_true, or_false, false_or, true_or, or_true, not_false_eq_true, not_true_eq_false, and_false, false_and, zb_0, zb_1, q10, h0, q10, mk133 h hc h6]
  have e1 : (up (up (kpF (d 1) c) (245 + 2 * a + r) s) (263 + 2 * a + r) z) 4 = nQ n := by rw [up_n (by omega), up_n (by omega), kp_lo _ _ (by omega), hn]
  have e2 : slF (kpF (d 1) c) n a r s z 4 = nQ n := (rv_4 _ _ _ _ (by omega)).trans e1
  simp (disch := omega) only [aOk, eq_self, tk_sB, pr_sB, tk_wr, pr_wr, nQ_nat, nQ_neg, nQ_add, nQ_mul, nQ_lt, leF, ltT, ltF, rd_sB, rd_sB0, wr_sB, wr_sB0, cn_l, cn_r, Option.toList, List.cons_append, List.nil_append, if_true, if_false, true_and, and_true, or_false, false_or, true_or, or_true, not_false_eq_true, not_true_eq_false, and_false, false_and, zb_0, zb_1, q10, h0, p1, t1, hb, rX_s, rX_r, g138_78, g138_93]
  have q1 : ∀ D : Nat → Nat → Int32, DoM 118 [.ref b, .int (nQ a), .int (nQ r)] (sB 7 σ b (rX D 1 (up (up (kpF (d 1) c) (245 + 2 * a + r) s) (263 + 2 * a + r) z))) = some (.inl none, sB 7 σ b (rX D 1 (slF (kpF (d 1) c) n a r s z))) := fun D => by
    have := m118 (d := rX D 1 (up (up (kpF (d 1) c) (245 + 2 * a + r) s) (263 + 2 * a + r) z)) h e1 h60 ha hr
    rwa [rX_s, rX_r] at this
  have q2 : ∀ D : Nat → Nat → Int32, DoM 116 [.ref b, .int (nQ a), .int (nQ r)] (sB 7 σ b (rX D 1 (slF (kpF (d 1) c) n a r s z))) = some (.inl (some (.int (usF (slF (kpF (d 1) c) n a r s z) (nQ a) r n))), sB 7 σ b (rX D 1 (slF (kpF (d 1) c) n a r s z))) := fun D => m116 (d := rX D 1 (slF (kpF (d 1) c) n a r s z)) h e2 h60 (nQ a) hr
  simp (disch := omega) only [aOk, eq_self, tk_sB, pr_sB, tk_wr, pr_wr, nQ_nat, nQ_neg, nQ_add, nQ_mul, nQ_lt, leF, ltT, ltF, rd_sB, rd_sB0, wr_sB, wr_sB0, cn_l, cn_r, Option.toList, List.cons_append, List.nil_append, if_true, if_false, true_and, and_true, or_false, false_or, true_or, or_true, not_false_eq_true, not_true_eq_false, and_false, false_and, zb_0, zb_1, q10, h0, q1, q2, g138_109, g138_115, g138_121]
theorem m140_1 (h : ShM σ b) {v w : Int32} (hx : ¬ (inP v (nQ 0) (nQ 8) ∧ inP w (nQ 0) (nQ 1))) : DoM 140 [.ref b, .int v, .int w] (sB 7 σ b d) = some (.inl (some (.int (nQ 0))), sB 7 σ b (thF d 1)) := by
  have h0 := h.2.1
  refine (g140_0).trans ?_
  simp (disch := omega) only [m111, if_z, eq_false hx, aOk, eq_self, tk_sB, pr_sB, tk_wr, pr_wr, nQ_nat, nQ_neg, nQ_add, nQ_mul, nQ_lt, leF, ltT, ltF, rd_sB, rd_sB0, wr_sB, wr_sB0, cn_l, cn_r, Option.toList, List.cons_append, List.nil_append, if_true, if_false, true_and, and_true, or_false, false_or, true_or, or_true, not_false_eq_true, not_true_eq_false, and_false, false_and, zb_0, zb_1, q10, h0, m107 h, g140_5, g140_38, g140_41, g140_50, g140_86]
theorem m140_2 (h : ShM σ b) {a r : Nat} (ha : a < 9) (hr : r < 2) (hs : d 1 (281 + 2 * a + r) = -1) : DoM 140 [.ref b, .int (nQ a), .int (nQ r)] (sB 7 σ b d) = some (.inl (some (.int (nQ 0))), sB 7 σ b (thF d 2)) := by
  obtain ⟨h8, h0, ⟨p1, p2, p3, p4, p5, p6⟩, t1, t2, t3, t4, t5, t6⟩ := id h
  have hx : (inP (nQ a) (nQ 0) (nQ 8) ∧ inP (nQ r) (nQ 0) (nQ 1)) = True := eq_true ⟨in_Q (by omega) (by decide), in_Q (by omega) (by decide)⟩
  refine (g140_0).trans ?_
  simp (disch := omega) only [m111, if_z, hx, aOk, eq_self, tk_sB, pr_sB, tk_wr, pr_wr, nQ_nat, nQ_neg, nQ_add, nQ_mul, nQ_lt, leF, ltT, ltF, rd_sB, rd_sB0, wr_sB, wr_sB0, cn_l, cn_r, Option.toList, List.cons_append, List.nil_append, if_true, if_false, true_and, and_true, or_false, false_or, true_or, or_true, not_false_eq_true, not_true_eq_false, and_false, false_and, zb_0, zb_1, q10, h0, p1, t1, hs, q20, m107 h, g140_5, g140_38, g140_41, g140_50, g140_86]
theorem m140_0 (h : ShM σ b) {c : Nat} (hc : d 0 2 = nQ c) (h6 : c ≤ 6) {a r : Nat} (ha : a < 9) (hr : r < 2) (hs : ¬ d 1 (281 + 2 * a + r) = -1) : DoM 140 [.ref b, .int (nQ a), .int (nQ r)] (sB 7 σ b d) = some (.inl (some (.int (d 1 (281 + 2 * a + r)))), sB 7 σ b (rX (kdF d c) 1 (up (kpF (d 1) c) (281 + 2 * a + r) (d 1 0)))) := by
  obtain ⟨h8, h0, ⟨p1, p2, p3, p4, p5, p6⟩, t1, t2, t3, t4, t5, t6⟩ := id h
  have hb : 8 ≤ b + 1 := by omega
  have hx : (inP (nQ a) (nQ 0) (nQ 8) ∧ inP (nQ r) (nQ 0) (nQ 1)) = True := eq_true ⟨in_Q (by omega) (by decide), in_Q (by omega) (by decide)⟩
  have e1 : kpF (d 1) c (281 + 2 * a + r) = d 1 (281 + 2 * a + r) := kp_lo _ _ (by omega)
  have e2 : kpF (d 1) c 0 = d 1 0 := kp_lo _ _ (by omega)
  refine (g140_0).trans ?_
  simp (disch := omega) only [m111, if_z, hx, aOk, eq_self, tk_sB, pr_sB, tk_wr, pr_wr, nQ_nat, nQ_neg, nQ_add, nQ_mul, nQ_lt, leF, ltT, ltF, rd_sB, rd_sB0, wr_sB, wr_sB0, cn_l, cn_r, Option.toList, List.cons_append, List.nil_append, if_true, if_false, true_and, and_true, or_false, false_or, true_or, or_true, not_false_eq_true, not_true_eq_false, and_false, false_and, zb_0, zb_1, q10, h0, p1, t1, hs, m107 h, g140_5, g140_38]
  rw [g140_41]
  simp (disch := omega) only [aOk, eq_self, tk_sB, pr_sB, tk_wr, pr_wr, nQ_nat, nQ_neg, nQ_add, nQ_mul, nQ_lt, leF, ltT, ltF, rd_sB, rd_sB0, wr_sB, wr_sB0, cn_l, cn_r, Option.toList, List.cons_append, List.nil_append, if_true, if_false, true_and, and_true, or_false, false_or, true_or, or_true, not_false_eq_true, not_true_eq_false, and_false, false_and, zb_0, zb_1, q10, h0, q10, mk133 h hc h6]
  simp (disch := omega) only [aOk, eq_self, tk_sB, pr_sB, tk_wr, pr_wr, nQ_nat, nQ_neg, nQ_add, nQ_mul, nQ_lt, leF, ltT, ltF, rd_sB, rd_sB0, wr_sB, wr_sB0, cn_l, cn_r, Option.toList, List.cons_append, List.nil_append, if_true, if_false, true_and, and_true, or_false, false_or, true_or, or_true, not_false_eq_true, not_true_eq_false, and_false, false_and, zb_0, zb_1, q10, h0, p1, t1, hb, rX_s, rX_r, e1, e2, g140_50, g140_86]
theorem m143_1 (h : ShM σ b) {v : Int32} (hx : ¬ inP v (nQ 32) (nQ 126)) : DoM 143 [.ref b, .int v] (sB 7 σ b d) = some (.inl (some (.int (nQ 0))), sB 7 σ b (thF d 1)) := by
  have h0 := h.2.1
  refine (g143_0).trans ?_
  simp (disch := omega) only [m106, if_z, eq_false hx, aOk, eq_self, tk_sB, pr_sB, tk_wr, pr_wr, nQ_nat, nQ_neg, nQ_add, nQ_mul, nQ_lt, leF, ltT, ltF, rd_sB, rd_sB0, wr_sB, wr_sB0, cn_l, cn_r, Option.toList, List.cons_append, List.nil_append, if_true, if_false, true_and, and_true, or_false, false_or, true_or, or_true, not_false_eq_true, not_true_eq_false, and_false, false_and, zb_0, zb_1, q10, h0, m107 h, g143_9, g143_30, g143_33, g143_48, g143_58]
theorem m143_2 (h : ShM σ b) {v : Int32} (hx : inP v (nQ 32) (nQ 126)) (hl : d 0 5 = nQ 100) : DoM 143 [.ref b, .int v] (sB 7 σ b d) = some (.inl (some (.int (nQ 0))), sB 7 σ b (thF d 2)) := by
  have h0 := h.2.1
  refine (g143_0).trans ?_
  simp (disch := omega) only [m106, if_z, eq_true hx, aOk, eq_self, tk_sB, pr_sB, tk_wr, pr_wr, nQ_nat, nQ_neg, nQ_add, nQ_mul, nQ_lt, leF, ltT, ltF, rd_sB, rd_sB0, wr_sB, wr_sB0, cn_l, cn_r, Option.toList, List.cons_append, List.nil_append, if_true, if_false, true_and, and_true, or_false, false_or, true_or, or_true, not_false_eq_true, not_true_eq_false, and_false, false_and, zb_0, zb_1, q10, h0, hl, q20, m107 h, g143_9, g143_30, g143_33, g143_48, g143_58]
theorem m143_0 (h : ShM σ b) {v : Int32} (hx : inP v (nQ 32) (nQ 126)) {l : Nat} (hl : d 0 5 = nQ l) (h100 : l < 100) : DoM 143 [.ref b, .int v] (sB 7 σ b d) = some (.inl (some (.int (nQ (l + 1)))), sB 7 σ b (rX (rX d 3 (up (d 3) l v)) 0 (up (up (d 0) 0 (nQ 0)) 5 (nQ (l + 1))))) := by
  obtain ⟨h8, h0, ⟨p1, p2, p3, p4, p5, p6⟩, t1, t2, t3, t4, t5, t6⟩ := id h
  have hb : 8 ≤ b + 3 := by omega
  have e : (nQ l = nQ 100) = False := by rw [nQ_eq (by omega) (by decide)]; exact eq_false (by omega)
  have e3 : thF d 0 3 = d 3 := rfl
  refine (g143_0).trans ?_
  simp (disch := omega) only [m106, if_z, eq_true hx, aOk, eq_self, tk_sB, pr_sB, tk_wr, pr_wr, nQ_nat, nQ_neg, nQ_add, nQ_mul, nQ_lt, leF, ltT, ltF, rd_sB, rd_sB0, wr_sB, wr_sB0, cn_l, cn_r, Option.toList, List.cons_append, List.nil_append, if_true, if_false, true_and, and_true, or_false, false_or, true_or, or_true, not_false_eq_true, not_true_eq_false, and_false, false_and, zb_0, zb_1, q10, h0, hl, e, q10, p4, t4, p3, t3, hb, m107 h, rX_s, up_n, rX_n, rX_r, g143_9, g143_30, g143_33, g143_48]
  rw [rX_3, g143_58]
  simp (disch := omega) only [aOk, eq_self, tk_sB, pr_sB, tk_wr, pr_wr, nQ_nat, nQ_neg, nQ_add, nQ_mul, nQ_lt, leF, ltT, ltF, rd_sB, rd_sB0, wr_sB, wr_sB0, cn_l, cn_r, Option.toList, List.cons_append, List.nil_append, if_true, if_false, true_and, and_true, or_false, false_or, true_or, or_true, not_false_eq_true, not_true_eq_false, and_false, false_and, zb_0, zb_1, q10, h0, rX_s, up_s]
theorem m144 (h : ShM σ b) : DoM 144 [.ref b] (sB 7 σ b d) = some (.inl (some (.int (d 0 5))), sB 7 σ b (rX d 0 (up (up (d 0) 0 (nQ 0)) 5 (nQ 0)))) := by
  have h0 := h.2.1
  refine (g144_0).trans ?_
  simp (disch := omega) only [aOk, eq_self, tk_sB, pr_sB, tk_wr, pr_wr, nQ_nat, nQ_neg, nQ_add, nQ_mul, nQ_lt, leF, ltT, ltF, rd_sB, rd_sB0, wr_sB, wr_sB0, cn_l, cn_r, Option.toList, List.cons_append, List.nil_append, if_true, if_false, true_and, and_true, or_false, false_or, true_or, or_true, not_false_eq_true, not_true_eq_false, and_false, false_and, zb_0, zb_1, q10, h0, rX_s, rX_r, up_n, g144_5, g144_15]
theorem m154_1 (h : ShM σ b) (hc : d 0 2 = nQ 0) : DoM 154 [.ref b] (sB 7 σ b d) = some (.inl (some (.int (nQ 0))), sB 7 σ b (thF d 1)) := by
  have h0 := h.2.1
  refine (g154_0).trans ?_
  simp (disch := omega) only [aOk, eq_self, tk_sB, pr_sB, tk_wr, pr_wr, nQ_nat, nQ_neg, nQ_add, nQ_mul, nQ_lt, leF, ltT, ltF, rd_sB, rd_sB0, wr_sB, wr_sB0, cn_l, cn_r, Option.toList, List.cons_append, List.nil_append, if_true, if_false, true_and, and_true, or_false, false_or, true_or, or_true, not_false_eq_true, not_true_eq_false, and_false, false_and, zb_0, zb_1, q10, h0, hc, m107 h, g154_13, g154_16, g154_30, g154_40]
theorem m154_0 (h : ShM σ b) {c : Nat} (hc : d 0 2 = nQ (c + 1)) (h6 : c < 6) : DoM 154 [.ref b] (sB 7 σ b d) = some (.inl (some (.int (nQ c))), sB 7 σ b (rX (rX d 1 (cpF (d 1) (c + 1) 0)) 0 (up (up (d 0) 0 (nQ 0)) 2 (nQ c)))) := by
  have h0 := h.2.1
  have e : thF d 0 0 2 = nQ (c + 1) := hc
  have e2 : (nQ 0 < nQ (c + 1)) = True := by rw [nQ_lt (by decide) (by omega)]; exact eq_true (by omega)
  refine (g154_0).trans ?_
  simp (disch := omega) only [aOk, eq_self, tk_sB, pr_sB, tk_wr, pr_wr, nQ_nat, nQ_neg, nQ_add, nQ_mul, nQ_lt, leF, ltT, ltF, rd_sB, rd_sB0, wr_sB, wr_sB0, cn_l, cn_r, Option.toList, List.cons_append, List.nil_append, if_true, if_false, true_and, and_true, or_false, false_or, true_or, or_true, not_false_eq_true, not_true_eq_false, and_false, false_and, zb_0, zb_1, q10, h0, hc, e2, m107 h, g154_13]
  rw [g154_16]
  simp (disch := omega) only [aOk, eq_self, tk_sB, pr_sB, tk_wr, pr_wr, nQ_nat, nQ_neg, nQ_add, nQ_mul, nQ_lt, leF, ltT, ltF, rd_sB, rd_sB0, wr_sB, wr_sB0, cn_l, cn_r, Option.toList, List.cons_append, List.nil_append, if_true, if_false, true_and, and_true, or_false, false_or, true_or, or_true, not_false_eq_true, not_true_eq_false, and_false, false_and, zb_0, zb_1, q10, h0, e]
  rw [m132 h (by omega) (by decide) (by omega)]
  simp (disch := omega) only [aOk, eq_self, tk_sB, pr_sB, tk_wr, pr_wr, nQ_nat, nQ_neg, nQ_add, nQ_mul, nQ_lt, leF, ltT, ltF, rd_sB, rd_sB0, wr_sB, wr_sB0, cn_l, cn_r, Option.toList, List.cons_append, List.nil_append, if_true, if_false, true_and, and_true, or_false, false_or, true_or, or_true, not_false_eq_true, not_true_eq_false, and_false, false_and, zb_0, zb_1, q10, h0, rX_s, rX_r, rX_n, e, up_n, up_s, hc, nQ_sub, Nat.add_sub_cancel, g154_30, g154_40]
  rw [rX_3]
theorem m155_1 (h : ShM σ b) {v : Int32} (hx : ¬ inP v (nQ 0) (nQ 1)) : DoM 155 [.ref b, .int v] (sB 7 σ b d) = some (.inl (some (.int (nQ 0))), sB 7 σ b (thF d 1)) := by
  have h0 := h.2.1
  refine (g155_0).trans ?_
  simp (disch := omega) only [m106, if_z, eq_false hx, aOk, eq_self, tk_sB, pr_sB, tk_wr, pr_wr, nQ_nat, nQ_neg, nQ_add, nQ_mul, nQ_lt, leF, ltT, ltF, rd_sB, rd_sB0, wr_sB, wr_sB0, cn_l, cn_r, Option.toList, List.cons_append, List.nil_append, if_true, if_false, true_and, and_true, or_false, false_or, true_or, or_true, not_false_eq_true, not_true_eq_false, and_false, false_and, zb_0, zb_1, q10, h0, m107 h, g155_7, g155_15, g155_18, g155_32, g155_39]
theorem m155_0 (h : ShM σ b) {i : Nat} (hi : i < 2) : DoM 155 [.ref b, .int (nQ i)] (sB 7 σ b d) = some (.inl (some (.int (d 1 0))), sB 7 σ b (rX (rX (thF d 0) 1 (cpF (d 1) 0 (7 + i))) 2 (up (d 2) i (nQ 1)))) := by
  obtain ⟨h8, h0, ⟨p1, p2, p3, p4, p5, p6⟩, t1, t2, t3, t4, t5, t6⟩ := id h
  have hx : inP (nQ i) (nQ 0) (nQ 1) = True := eq_true (in_Q (by omega) (by decide))
  have e0 : cpF (d 1) 0 (7 + i) 0 = d 1 0 := if_neg (by omega)
  have e1 : nQ 1 &&& nQ 1 = nQ 1 := by decide
  refine (g155_0).trans ?_
  simp (disch := omega) only [m106, if_z, hx, aOk, eq_self, tk_sB, pr_sB, tk_wr, pr_wr, nQ_nat, nQ_neg, nQ_add, nQ_mul, nQ_lt, leF, ltT, ltF, rd_sB, rd_sB0, wr_sB, wr_sB0, cn_l, cn_r, Option.toList, List.cons_append, List.nil_append, if_true, if_false, true_and, and_true, or_false, false_or, true_or, or_true, not_false_eq_true, not_true_eq_false, and_false, false_and, zb_0, zb_1, q10, h0, m107 h, g155_7, g155_15]
  rw [g155_18]
  simp (disch := omega) only [aOk, eq_self, tk_sB, pr_sB, tk_wr, pr_wr, nQ_nat, nQ_neg, nQ_add, nQ_mul, nQ_lt, leF, ltT, ltF, rd_sB, rd_sB0, wr_sB, wr_sB0, cn_l, cn_r, Option.toList, List.cons_append, List.nil_append, if_true, if_false, true_and, and_true, or_false, false_or, true_or, or_true, not_false_eq_true, not_true_eq_false, and_false, false_and, zb_0, zb_1, q10, h0]
  rw [m132 h (by decide) (by omega) (by omega)]
  simp (disch := omega) only [aOk, eq_self, tk_sB, pr_sB, tk_wr, pr_wr, nQ_nat, nQ_neg, nQ_add, nQ_mul, nQ_lt, leF, ltT, ltF, rd_sB, rd_sB0, wr_sB, wr_sB0, cn_l, cn_r, Option.toList, List.cons_append, List.nil_append, if_true, if_false, true_and, and_true, or_false, false_or, true_or, or_true, not_false_eq_true, not_true_eq_false, and_false, false_and, zb_0, zb_1, q10, h0, p1, p2, t1, t2, rX_n, rX_s, e0, e1, g155_32, g155_39]
theorem m156_1 (h : ShM σ b) {v : Int32} (hx : ¬ inP v (nQ 0) (nQ 1)) : DoM 156 [.ref b, .int v] (sB 7 σ b d) = some (.inl (some (.int (nQ 0))), sB 7 σ b (thF d 1)) := by
  have h0 := h.2.1
  refine (g156_0).trans ?_
  simp (disch := omega) only [m106, if_z, eq_false hx, aOk, eq_self, tk_sB, pr_sB, tk_wr, pr_wr, nQ_nat, nQ_neg, nQ_add, nQ_mul, nQ_lt, leF, ltT, ltF, rd_sB, rd_sB0, wr_sB, wr_sB0, cn_l, cn_r, Option.toList, List.cons_append, List.nil_append, if_true, if_false, true_and, and_true, or_false, false_or, true_or, or_true, not_false_eq_true, not_true_eq_false, and_false, false_and, zb_0, zb_1, q10, h0, m107 h, g156_7, g156_28, g156_31, g156_40, g156_49]
theorem m156_2 (h : ShM σ b) {i : Nat} (hi : i < 2) (hf : d 2 i = nQ 0) : DoM 156 [.ref b, .int (nQ i)] (sB 7 σ b d) = some (.inl (some (.int (nQ 0))), sB 7 σ b (thF d 2)) := by
  obtain ⟨h8, h0, ⟨p1, p2, p3, p4, p5, p6⟩, t1, t2, t3, t4, t5, t6⟩ := id h
  have hx : inP (nQ i) (nQ 0) (nQ 1) = True := eq_true (in_Q (by omega) (by decide))
  refine (g156_0).trans ?_
  simp (disch := omega) only [m106, if_z, hx, hf, q20, p2, t2, aOk, eq_self, tk_sB, pr_sB, tk_wr, pr_wr, nQ_nat, nQ_neg, nQ_add, nQ_mul, nQ_lt, leF, ltT, ltF, rd_sB, rd_sB0, wr_sB, wr_sB0, cn_l, cn_r, Option.toList, List.cons_append, List.nil_append, if_true, if_false, true_and, and_true, or_false, false_or, true_or, or_true, not_false_eq_true, not_true_eq_false, and_false, false_and, zb_0, zb_1, q10, h0, m107 h, g156_7, g156_28, g156_31, g156_40, g156_49]
theorem m156_0 (h : ShM σ b) {c : Nat} (hc : d 0 2 = nQ c) (h6 : c ≤ 6) {i : Nat} (hi : i < 2) (hf : d 2 i = nQ 1) : DoM 156 [.ref b, .int (nQ i)] (sB 7 σ b d) = some (.inl (some (.int (cpF (kpF (d 1) c) (7 + i) 0 0))), sB 7 σ b (rX (kdF d c) 1 (cpF (kpF (d 1) c) (7 + i) 0))) := by
  obtain ⟨h8, h0, ⟨p1, p2, p3, p4, p5, p6⟩, t1, t2, t3, t4, t5, t6⟩ := id h
  have hx : inP (nQ i) (nQ 0) (nQ 1) = True := eq_true (in_Q (by omega) (by decide))
  refine (g156_0).trans ?_
  simp (disch := omega) only [m106, if_z, hx, hf, q10, p2, t2, aOk, eq_self, tk_sB, pr_sB, tk_wr, pr_wr, nQ_nat, nQ_neg, nQ_add, nQ_mul, nQ_lt, leF, ltT, ltF, rd_sB, rd_sB0, wr_sB, wr_sB0, cn_l, cn_r, Option.toList, List.cons_append, List.nil_append, if_true, if_false, true_and, and_true, or_false, false_or, true_or, or_true, not_false_eq_true, not_true_eq_false, and_false, false_and, zb_0, zb_1, q10, h0, m107 h, g156_7, g156_28]
  rw [g156_31]
  simp (disch := omega) only [aOk, eq_self, tk_sB, pr_sB, tk_wr, pr_wr, nQ_nat, nQ_neg, nQ_add, nQ_mul, nQ_lt, leF, ltT, ltF, rd_sB, rd_sB0, wr_sB, wr_sB0, cn_l, cn_r, Option.toList, List.cons_append, List.nil_append, if_true, if_false, true_and, and_true, or_false, false_or, true_or, or_true, not_false_eq_true, not_true_eq_false, and_false, false_and, zb_0, zb_1, q10, h0, q10, mk133 h hc h6]
  rw [g156_40]
  simp (disch := omega) only [aOk, eq_self, tk_sB, pr_sB, tk_wr, pr_wr, nQ_nat, nQ_neg, nQ_add, nQ_mul, nQ_lt, leF, ltT, ltF, rd_sB, rd_sB0, wr_sB, wr_sB0, cn_l, cn_r, Option.toList, List.cons_append, List.nil_append, if_true, if_false, true_and, and_true, or_false, false_or, true_or, or_true, not_false_eq_true, not_true_eq_false, and_false, false_and, zb_0, zb_1, q10, h0]
  rw [m132 h (by omega) (by decide) (by omega)]
  simp (disch := omega) only [aOk, eq_self, tk_sB, pr_sB, tk_wr, pr_wr, nQ_nat, nQ_neg, nQ_add, nQ_mul, nQ_lt, leF, ltT, ltF, rd_sB, rd_sB0, wr_sB, wr_sB0, cn_l, cn_r, Option.toList, List.cons_append, List.nil_append, if_true, if_false, true_and, and_true, or_false, false_or, true_or, or_true, not_false_eq_true, not_true_eq_false, and_false, false_and, zb_0, zb_1, q10, h0, p1, t1, rX_n, rX_s, rX_r, g156_49]
def glF (f : Nat → Int32) (a r : Nat) : Int32 := if f (281 + 2 * a + r) = -1 then -1 else if f (1 + r) - (f 0 - f (281 + 2 * a + r)) < nQ 0 then nQ 0 else f (1 + r) - (f 0 - f (281 + 2 * a + r))
theorem m162_1 (h : ShM σ b) {v w : Int32} (hx : ¬ (inP v (nQ 0) (nQ 8) ∧ inP w (nQ 0) (nQ 1))) : DoM 162 [.ref b, .int v, .int w] (sB 7 σ b d) = some (.inl (some (.int (nQ 0))), sB 7 σ b (thF d 1)) := by
  have h0 := h.2.1
  refine (g162_0).trans ?_
  simp (disch := omega) only [m111, if_z, eq_false hx, aOk, eq_self, tk_sB, pr_sB, tk_wr, pr_wr, nQ_nat, nQ_neg, nQ_add, nQ_mul, nQ_lt, leF, ltT, ltF, rd_sB, rd_sB0, wr_sB, wr_sB0, cn_l, cn_r, Option.toList, List.cons_append, List.nil_append, if_true, if_false, true_and, and_true, or_false, false_or, true_or, or_true, not_false_eq_true, not_true_eq_false, and_false, false_and, zb_0, zb_1, q10, h0, m107 h, g162_6, g162_14, g162_17, g162_76]
theorem m162_0 (h : ShM σ b) {a r : Nat} (ha : a < 9) (hr : r < 2) : DoM 162 [.ref b, .int (nQ a), .int (nQ r)] (sB 7 σ b d) = some (.inl (some (.int (glF (d 1) a r))), sB 7 σ b (thF d 0)) := by
  obtain ⟨h8, h0, ⟨p1, p2, p3, p4, p5, p6⟩, t1, t2, t3, t4, t5, t6⟩ := id h
  have hx : (inP (nQ a) (nQ 0) (nQ 8) ∧ inP (nQ r) (nQ 0) (nQ 1)) = True := eq_true ⟨in_Q (by omega) (by decide), in_Q (by omega) (by decide)⟩
  refine (g162_0).trans ?_
  unfold glF
  by_cases c1 : d 1 (281 + 2 * a + r) = -1 <;> by_cases c2 : d 1 (1 + r) - (d 1 0 - d 1 (281 + 2 * a + r)) < nQ 0 <;> simp (disch := omega) only [m111, if_z, hx, aOk, eq_self, tk_sB, pr_sB, tk_wr, pr_wr, nQ_nat, nQ_neg, nQ_add, nQ_mul, nQ_lt, leF, ltT, ltF, rd_sB, rd_sB0, wr_sB, wr_sB0, cn_l, cn_r, Option.toList, List.cons_append, List.nil_append, if_true, if_false, true_and, and_true, or_false, false_or, true_or, or_true, not_false_eq_true, not_true_eq_false, and_false, false_and, zb_0, zb_1, q10, h0, p1, t1, rX_n, c1, c2, m107 h, g162_6, g162_14, g162_17, g162_76]
def avF (f : Nat → Int32) (n a r : Nat) : Int32 := if ovF f (f (281 + (2 * a + r))) (f 0) r then nQ 0 else if f (263 + (2 * a + r)) = nQ 0 then -2 else if f (263 + (2 * a + r)) - usF f (nQ a) r n < nQ 0 then nQ 0 else f (263 + (2 * a + r)) - usF f (nQ a) r n
theorem m163_1 (h : ShM σ b) {v w : Int32} (hx : ¬ (inP v (nQ 0) (nQ 8) ∧ inP w (nQ 0) (nQ 1))) : DoM 163 [.ref b, .int v, .int w] (sB 7 σ b d) = some (.inl (some (.int (nQ 0))), sB 7 σ b (thF d 1)) := by
  have h0 := h.2.1
  refine (g163_0).trans ?_
  simp (disch := omega) only [m111, if_z, eq_false hx, aOk, eq_self, tk_sB, pr_sB, tk_wr, pr_wr, nQ_nat, nQ_neg, nQ_add, nQ_mul, nQ_lt, leF, ltT, ltF, rd_sB, rd_sB0, wr_sB, wr_sB0, cn_l, cn_r, Option.toList, List.cons_append, List.nil_append, if_true, if_false, true_and, and_true, or_false, false_or, true_or, or_true, not_false_eq_true, not_true_eq_false, and_false, false_and, zb_0, zb_1, q10, h0, m107 h, g163_6, g163_14, g163_17, g163_49, g163_70, g163_102]
theorem m163_0 (h : ShM σ b) {n : Nat} (hn : d 1 4 = nQ n) (h60 : n ≤ 60) {a r : Nat} (ha : a < 9) (hr : r < 2) : DoM 163 [.ref b, .int (nQ a), .int (nQ r)] (sB 7 σ b d) = some (.inl (some (.int (avF (d 1) n a r))), sB 7 σ b (thF d 0)) := by
  obtain ⟨h8, h0, ⟨p1, p2, p3, p4, p5, p6⟩, t1, t2, t3, t4, t5, t6⟩ := id h
  have hx : (inP (nQ a) (nQ 0) (nQ 8) ∧ inP (nQ r) (nQ 0) (nQ 1)) = True := eq_true ⟨in_Q (by omega) (by decide), in_Q (by omega) (by decide)⟩
  have hn' : thF d 0 1 4 = nQ n := hn
  refine (g163_0).trans ?_
  unfold avF
  rcases Classical.propComplete (ovF (d 1) (d 1 (281 + (2 * a + r))) (d 1 0) r) with e1 | e1 <;> by_cases c1 : d 1 (263 + (2 * a + r)) = nQ 0 <;> by_cases c2 : d 1 (263 + (2 * a + r)) - usF (d 1) (nQ a) r n < nQ 0 <;> simp (disch := omega) only [m111, if_z, hx, aOk, eq_self, tk_sB, pr_sB, tk_wr, pr_wr, nQ_nat, nQ_neg, nQ_add, nQ_mul, nQ_lt, leF, ltT, ltF, rd_sB, rd_sB0, wr_sB, wr_sB0, cn_l, cn_r, Option.toList, List.cons_append, List.nil_append, if_true, if_false, true_and, and_true, or_false, false_or, true_or, or_true, not_false_eq_true, not_true_eq_false, and_false, false_and, zb_0, zb_1, q10, h0, p1, t1, rX_n, c1, c2, m107 h, m120 h, m116 h hn' h60, e1, rX_0, q10, g163_6, g163_14, g163_17, g163_49, g163_70, g163_102]
end Mk
