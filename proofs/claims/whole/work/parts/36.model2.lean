/-! The model's changes. -/
theorem re_le (f : Nat → Int32) (n : Nat) (ri : Nat → Int32) (u g : Nat) : ∀ (m e : Nat), e + m = 4 → reN f n ri u g m e ≤ 8
  | 0, _, _ => by unfold reN; omega
  | m + 1, e, h => by
    have hc : ceN f n ri u g e ≤ 2 := ca_le _ _ _ _ _
    have := re_le f n ri u g m (e + 1) (by omega)
    unfold reN
    split <;> omega
theorem ra_le (f : Nat → Int32) (n : Nat) (ri : Nat → Int32) (u g : Nat) : raN f n ri u g ≤ 8 := by
  unfold raN
  split
  · omega
  · exact re_le _ _ _ _ _ _ _ rfl
def riF (f : Nat → Int32) (x y z w : Int32) : Nat → Int32 := up (up (up (up f 0 x) 1 y) 2 z) 3 w
def rfF (f : Nat → Int32) (n : Nat) (ri : Nat → Int32) (u g : Nat) : Nat → Int32 :=
  if raN f n ri u g = 0 then f else lgF (up f (299 + acN ((raN f n ri u g - 1) / 2) u g) (f (299 + acN ((raN f n ri u g - 1) / 2) u g) + nQ 1)) (nQ 4) (nQ (acN ((raN f n ri u g - 1) / 2) u g)) (nQ ((raN f n ri u g - 1) / 2 - (raN f n ri u g - 1) / 2 / 2 * 2))
def crF (f : Nat → Int32) (n : Nat) (ri : Nat → Int32) (u g : Nat) (p z : Int32) : Nat → Int32 :=
  if raN f n ri u g = 0 then rvA (up (up (up (up (up f (5 + 4 * n) p) (5 + 4 * n + 1) (nQ u)) (5 + 4 * n + 2) (nQ g)) (5 + 4 * n + 3) z) 4 (nQ (n + 1))) (n + 1) 18 else rfF f n ri u g
section Me
variable {σ : Mem} {b : Nat} {d : Nat → Nat → Int32}
theorem m125 (h : ShM σ b) (x y z w : Int32) : DoM 125 [.ref b, .int x, .int y, .int z, .int w] (sB 7 σ b d) = some (.inl none, sB 7 σ b (rX d 5 (riF (d 5) x y z w))) := by
  obtain ⟨h8, h0, ⟨p1, p2, p3, p4, p5, p6⟩, t1, t2, t3, t4, t5, t6⟩ := h
  have hb : 8 ≤ b + 5 := by omega
  refine (g125_0).trans ?_
  unfold riF
  simp (disch := omega) only [aOk, eq_self, tk_sB, pr_sB, tk_wr, pr_wr, nQ_nat, nQ_neg, nQ_add, nQ_mul, nQ_lt, leF, ltT, ltF, rd_sB, rd_sB0, wr_sB, wr_sB0, cn_l, cn_r, Option.toList, List.cons_append, List.nil_append, if_true, if_false, true_and, and_true, or_false, false_or, true_or, or_true, not_false_eq_true, not_true_eq_false, and_false, false_and, zb_0, zb_1, q10, h0, p5, t5, hb, rX_s, rX_r, g125_7, g125_14, g125_21, g125_29]
theorem m126 (h : ShM σ b) {n : Nat} (hn : d 1 4 = nQ n) (h60 : n ≤ 60) {u g : Nat} (hu : u < 6) (hg : g < 3) : DoM 126 [.ref b, .int (nQ u), .int (nQ g)] (sB 7 σ b d) = some (.inl (some (.int (nQ (raN (d 1) n (d 5) u g)))), sB 7 σ b (rX d 1 (rfF (d 1) n (d 5) u g))) := by
  obtain ⟨h8, h0, ⟨p1, p2, p3, p4, p5, p6⟩, t1, t2, t3, t4, t5, t6⟩ := id h
  have hb : 8 ≤ b + 1 := by omega
  have hr := ra_le (d 1) n (d 5) u g
  have ha := ac_lt (e := (raN (d 1) n (d 5) u g - 1) / 2) hu hg
  refine (g126_0).trans ?_
  simp (disch := omega) only [aOk, eq_self, tk_sB, pr_sB, tk_wr, pr_wr, nQ_nat, nQ_neg, nQ_add, nQ_mul, nQ_lt, leF, ltT, ltF, rd_sB, rd_sB0, wr_sB, wr_sB0, cn_l, cn_r, Option.toList, List.cons_append, List.nil_append, if_true, if_false, true_and, and_true, or_false, false_or, true_or, or_true, not_false_eq_true, not_true_eq_false, and_false, false_and, zb_0, zb_1, q10, h0, m124 h hn h60 hu hg, g126_6]
  unfold rfF
  by_cases hq : raN (d 1) n (d 5) u g = 0
  · simp (disch := omega) only [aOk, eq_self, tk_sB, pr_sB, tk_wr, pr_wr, nQ_nat, nQ_neg, nQ_add, nQ_mul, nQ_lt, leF, ltT, ltF, rd_sB, rd_sB0, wr_sB, wr_sB0, cn_l, cn_r, Option.toList, List.cons_append, List.nil_append, if_true, if_false, true_and, and_true, or_false, false_or, true_or, or_true, not_false_eq_true, not_true_eq_false, and_false, false_and, zb_0, zb_1, q10, hq, rX_i, g126_52]
  · simp (disch := omega) only [aOk, eq_self, tk_sB, pr_sB, tk_wr, pr_wr, nQ_nat, nQ_neg, nQ_add, nQ_mul, nQ_lt, leF, ltT, ltF, rd_sB, rd_sB0, wr_sB, wr_sB0, cn_l, cn_r, Option.toList, List.cons_append, List.nil_append, if_true, if_false, true_and, and_true, or_false, false_or, true_or, or_true, not_false_eq_true, not_true_eq_false, and_false, false_and, zb_0, zb_1, q10, h0, p1, t1, hb, hq, nQ_sub, nQ_div, m123, m117 h, rX_s, rX_r, g126_21, g126_38, g126_52]
theorem m127 (h : ShM σ b) {n : Nat} (hn : d 1 4 = nQ n) (h60 : n < 60) {u g : Nat} (hu : u < 6) (hg : g < 3) (p z : Int32) : DoM 127 [.ref b, .int (nQ u), .int (nQ g), .int p, .int z] (sB 7 σ b d) = some (.inl (some (.int (nQ (raN (d 1) n (riF (d 5) z (nQ 1) z (nQ 1)) u g)))), sB 7 σ b (rX (rX d 5 (riF (d 5) z (nQ 1) z (nQ 1))) 1 (crF (d 1) n (riF (d 5) z (nQ 1) z (nQ 1)) u g p z))) := by
  obtain ⟨h8, h0, ⟨p1, p2, p3, p4, p5, p6⟩, t1, t2, t3, t4, t5, t6⟩ := id h
  have hb : 8 ≤ b + 1 := by omega
  have e1 : (rX d 5 (riF (d 5) z (nQ 1) z (nQ 1))) 1 4 = nQ n := hn
  have hr := ra_le (d 1) n (riF (d 5) z (nQ 1) z (nQ 1)) u g
  refine (g127_0).trans ?_
  simp (disch := omega) only [aOk, eq_self, tk_sB, pr_sB, tk_wr, pr_wr, nQ_nat, nQ_neg, nQ_add, nQ_mul, nQ_lt, leF, ltT, ltF, rd_sB, rd_sB0, wr_sB, wr_sB0, cn_l, cn_r, Option.toList, List.cons_append, List.nil_append, if_true, if_false, true_and, and_true, or_false, false_or, true_or, or_true, not_false_eq_true, not_true_eq_false, and_false, false_and, zb_0, zb_1, q10, h0, m125 h, g127_10]
  rw [m126 h e1 (by omega) hu hg]
  simp (disch := omega) only [aOk, eq_self, tk_sB, pr_sB, tk_wr, pr_wr, nQ_nat, nQ_neg, nQ_add, nQ_mul, nQ_lt, leF, ltT, ltF, rd_sB, rd_sB0, wr_sB, wr_sB0, cn_l, cn_r, Option.toList, List.cons_append, List.nil_append, if_true, if_false, true_and, and_true, or_false, false_or, true_or, or_true, not_false_eq_true, not_true_eq_false, and_false, false_and, zb_0, zb_1, q10, rX_s, rX_n, g127_16, nQ_eq]
  unfold crF
  by_cases hq : raN (d 1) n (riF (d 5) z (nQ 1) z (nQ 1)) u g = 0
  · have e2 : rfF (d 1) n (riF (d 5) z (nQ 1) z (nQ 1)) u g = d 1 := if_pos hq
    simp (disch := omega) only [aOk, eq_self, tk_sB, pr_sB, tk_wr, pr_wr, nQ_nat, nQ_neg, nQ_add, nQ_mul, nQ_lt, leF, ltT, ltF, rd_sB, rd_sB0, wr_sB, wr_sB0, cn_l, cn_r, Option.toList, List.cons_append, List.nil_append, if_true, if_false, true_and, and_true, or_false, false_or, true_or, or_true, not_false_eq_true, not_true_eq_false, and_false, false_and, zb_0, zb_1, q10, h0, p1, t1, hb, hq, e2, hn, m113 h, up_s, up_n, rX_s, rX_r, Nat.add_zero, g127_35, g127_47, g127_59, g127_72]
    rw [g127_82]
    simp (disch := omega) only [aOk, eq_self, tk_sB, pr_sB, tk_wr, pr_wr, nQ_nat, nQ_neg, nQ_add, nQ_mul, nQ_lt, leF, ltT, ltF, rd_sB, rd_sB0, wr_sB, wr_sB0, cn_l, cn_r, Option.toList, List.cons_append, List.nil_append, if_true, if_false, true_and, and_true, or_false, false_or, true_or, or_true, not_false_eq_true, not_true_eq_false, and_false, false_and, zb_0, zb_1, q10, h0]
    rw [m119 h (n := n + 1) (by rw [rX_s, up_s]) (by omega)]
    simp (disch := omega) only [aOk, eq_self, tk_sB, pr_sB, tk_wr, pr_wr, nQ_nat, nQ_neg, nQ_add, nQ_mul, nQ_lt, leF, ltT, ltF, rd_sB, rd_sB0, wr_sB, wr_sB0, cn_l, cn_r, Option.toList, List.cons_append, List.nil_append, if_true, if_false, true_and, and_true, or_false, false_or, true_or, or_true, not_false_eq_true, not_true_eq_false, and_false, false_and, zb_0, zb_1, q10, rX_s, rX_r, g127_86]
  · simp (disch := omega) only [aOk, eq_self, tk_sB, pr_sB, tk_wr, pr_wr, nQ_nat, nQ_neg, nQ_add, nQ_mul, nQ_lt, leF, ltT, ltF, rd_sB, rd_sB0, wr_sB, wr_sB0, cn_l, cn_r, Option.toList, List.cons_append, List.nil_append, if_true, if_false, true_and, and_true, or_false, false_or, true_or, or_true, not_false_eq_true, not_true_eq_false, and_false, false_and, zb_0, zb_1, q10, hq, g127_86]
end Me
