/-! The class's files. -/
section Cv
variable {σ : Mem} {b : Nat} {d : Nat → Nat → Int32}
theorem c6 (h : ShS σ b) {n : Nat} (hn : d 8 0 = nQ n) (h60 : n ≤ 60) (key : Int32) : ∃ v, DoM 6 [.ref (b + 8), .int key] (sB 17 σ b d) = some (.inl (some (.int v)), sB 17 σ b d) ∧ ((∃ i, i < n ∧ v = nQ i ∧ d 9 i = key) ∨ (v = -1 ∧ ∀ i, i < n → ¬ d 9 i = key)) := by
  obtain ⟨h8, ⟨k0, k8, k13⟩, ⟨p1, p2, p3, p4, p5, p6, p7, p8, p9⟩, ⟨q1, q2, q3, q4⟩, ⟨e2, e3, e4⟩, ⟨t1, t2, t3, t4, t5, t6, t7⟩, ⟨t9, t10, t11, t12⟩, ⟨t14, t15, t16⟩⟩ := id h
  have L : ∀ (m i : Nat), i + m = n → (∀ j, j < i → ¬ d 9 j = key) → ∃ v, RuM 6 (2, [some (.ref (b + 8)), some (.int key), some (.int (nQ i))], [], 0, 0) (sB 17 σ b d) = some (.inl (some (.int v)), sB 17 σ b d) ∧ ((∃ i, i < n ∧ v = nQ i ∧ d 9 i = key) ∨ (v = -1 ∧ ∀ i, i < n → ¬ d 9 i = key)) := by
    intro m
    induction m with
    | zero =>
      intro i e hj
      obtain rfl : i = n := e
      refine ⟨-1, ?_, Or.inr ⟨rfl, hj⟩⟩
      rw [g6_2]
      simp (disch := omega) only [aOk, eq_self, tk_sB, pr_sB, tk_wr, pr_wr, nQ_nat, nQ_neg, nQ_add, nQ_mul, nQ_lt, leF, ltT, ltF, rd_sB, rd_sB0, wr_sB, wr_sB0, cn_l, cn_r, Option.toList, List.cons_append, List.nil_append, if_true, if_false, true_and, and_true, or_false, false_or, true_or, or_true, not_false_eq_true, not_true_eq_false, and_false, false_and, zb_0, zb_1, q10, k0, k8, k13, p1, p2, p3, p4, p5, p6, p7, p8, p9, q1, q2, q3, q4, e2, e3, e4, t1, t2, t3, t4, t5, t6, t7, t9, t10, t11, t12, t14, t15, t16, le8 h8, hn]
    | succ m ih =>
      intro i e hj
      rw [g6_2]
      by_cases hc : d 9 i = key
      · refine ⟨nQ i, ?_, Or.inl ⟨i, by omega, rfl, hc⟩⟩
        simp (disch := omega) only [aOk, eq_self, tk_sB, pr_sB, tk_wr, pr_wr, nQ_nat, nQ_neg, nQ_add, nQ_mul, nQ_lt, leF, ltT, ltF, rd_sB, rd_sB0, wr_sB, wr_sB0, cn_l, cn_r, Option.toList, List.cons_append, List.nil_append, if_true, if_false, true_and, and_true, or_false, false_or, true_or, or_true, not_false_eq_true, not_true_eq_false, and_false, false_and, zb_0, zb_1, q10, k0, k8, k13, p1, p2, p3, p4, p5, p6, p7, p8, p9, q1, q2, q3, q4, e2, e3, e4, t1, t2, t3, t4, t5, t6, t7, t9, t10, t11, t12, t14, t15, t16, le8 h8, hn, hc]
      · simp (disch := omega) only [aOk, eq_self, tk_sB, pr_sB, tk_wr, pr_wr, nQ_nat, nQ_neg, nQ_add, nQ_mul, nQ_lt, leF, ltT, ltF, rd_sB, rd_sB0, wr_sB, wr_sB0, cn_l, cn_r, Option.toList, List.cons_append, List.nil_append, if_true, if_false, true_and, and_true, or_false, false_or, true_or, or_true, not_false_eq_true, not_true_eq_false, and_false, false_and, zb_0, zb_1, q10, k0, k8, k13, p1, p2, p3, p4, p5, p6, p7, p8, p9, q1, q2, q3, q4, e2, e3, e4, t1, t2, t3, t4, t5, t6, t7, t9, t10, t11, t12, t14, t15, t16, le8 h8, hn, hc]
        refine ih (i + 1) (by omega) (fun j hj' => ?_)
        by_cases hji : j = i
        · rw [hji]; exact hc
        · exact hj j (by omega)
  obtain ⟨v, h1, h2⟩ := L n 0 (Nat.zero_add n) (fun j hj => absurd hj (Nat.not_lt_zero j))
  exact ⟨v, (g6_0).trans h1, h2⟩
abbrev chC (d : Nat → Nat → Int32) (a : Int32) (i : Nat) : Prop := d 10 i = a ∨ nQ 6 + d 11 i = a
theorem c9 (h : ShS σ b) {i : Nat} (hi : i < 60) (a : Int32) : DoM 9 [.ref (b + 8), .int (nQ i), .int a] (sB 17 σ b d) = some (.inl (some (.int (if chC d a i then nQ 1 else nQ 0))), sB 17 σ b d) := by
  obtain ⟨h8, ⟨k0, k8, k13⟩, ⟨p1, p2, p3, p4, p5, p6, p7, p8, p9⟩, ⟨q1, q2, q3, q4⟩, ⟨e2, e3, e4⟩, ⟨t1, t2, t3, t4, t5, t6, t7⟩, ⟨t9, t10, t11, t12⟩, ⟨t14, t15, t16⟩⟩ := id h
  refine (g9_0).trans ?_
  by_cases w1 : d 10 i = a <;> by_cases w2 : nQ 6 + d 11 i = a <;> simp (disch := omega) only [aOk, eq_self, tk_sB, pr_sB, tk_wr, pr_wr, nQ_nat, nQ_neg, nQ_add, nQ_mul, nQ_lt, leF, ltT, ltF, rd_sB, rd_sB0, wr_sB, wr_sB0, cn_l, cn_r, Option.toList, List.cons_append, List.nil_append, if_true, if_false, true_and, and_true, or_false, false_or, true_or, or_true, not_false_eq_true, not_true_eq_false, and_false, false_and, zb_0, zb_1, q10, k0, k8, k13, p1, p2, p3, p4, p5, p6, p7, p8, p9, q1, q2, q3, q4, e2, e3, e4, t1, t2, t3, t4, t5, t6, t7, t9, t10, t11, t12, t14, t15, t16, le8 h8, c99, w1, w2, chC, g9_19, g9_23, g9_28]
theorem c10 (h : ShS σ b) {n : Nat} (hn : d 8 0 = nQ n) (h60 : n ≤ 60) (a : Int32) {r : Nat} (hr : r < 2) : DoM 10 [.ref (b + 8), .int a, .int (nQ r)] (sB 17 σ b d) = some (.inl (some (.int (smQ (gAR a r) (Lq (qC d) n)))), sB 17 σ b d) := by
  obtain ⟨h8, ⟨k0, k8, k13⟩, ⟨p1, p2, p3, p4, p5, p6, p7, p8, p9⟩, ⟨q1, q2, q3, q4⟩, ⟨e2, e3, e4⟩, ⟨t1, t2, t3, t4, t5, t6, t7⟩, ⟨t9, t10, t11, t12⟩, ⟨t14, t15, t16⟩⟩ := id h
  have L : ∀ (m i : Nat), i + m = n → RuM 10 (5, [some (.ref (b + 8)), some (.int a), some (.int (nQ r)), some (.int (smQ (gAR a r) (Lq (qC d) i))), some (.int (nQ i))], [], 0, 0) (sB 17 σ b d) = some (.inl (some (.int (smQ (gAR a r) (Lq (qC d) n)))), sB 17 σ b d) := by
    intro m
    induction m with
    | zero =>
      intro i e
      obtain rfl : i = n := e
      have er : (nQ r = nQ 0) = (r = 0) := nQ_eq (by omega) (by decide)
      rw [g10_5]
      simp (disch := omega) only [aOk, eq_self, tk_sB, pr_sB, tk_wr, pr_wr, nQ_nat, nQ_neg, nQ_add, nQ_mul, nQ_lt, leF, ltT, ltF, rd_sB, rd_sB0, wr_sB, wr_sB0, cn_l, cn_r, Option.toList, List.cons_append, List.nil_append, if_true, if_false, true_and, and_true, or_false, false_or, true_or, or_true, not_false_eq_true, not_true_eq_false, and_false, false_and, zb_0, zb_1, q10, k0, k8, k13, p1, p2, p3, p4, p5, p6, p7, p8, p9, q1, q2, q3, q4, e2, e3, e4, t1, t2, t3, t4, t5, t6, t7, t9, t10, t11, t12, t14, t15, t16, le8 h8, hn]
    | succ m ih =>
      intro i e
      have ih' := ih (i + 1) (by omega)
      rw [Lq_s, sm_app] at ih'
      have hg : gAR a r (qC d i) = if chC d a i then (if r = 0 then d 12 i else nQ 1) else nQ 0 := rfl
      have z0 : ∀ x : Int32, x + nQ 0 = x := fun x => Int32.add_zero x
      rw [hg] at ih'
      have hi : i < 60 := by omega
      have er : (nQ r = nQ 0) = (r = 0) := nQ_eq (by omega) (by decide)
      rw [g10_5]
      rcases Classical.propComplete (chC d a i) with w1 | w1 <;> rcases Classical.propComplete (r = 0) with w2 | w2 <;> simp (disch := omega) only [aOk, eq_self, tk_sB, pr_sB, tk_wr, pr_wr, nQ_nat, nQ_neg, nQ_add, nQ_mul, nQ_lt, leF, ltT, ltF, rd_sB, rd_sB0, wr_sB, wr_sB0, cn_l, cn_r, Option.toList, List.cons_append, List.nil_append, if_true, if_false, true_and, and_true, or_false, false_or, true_or, or_true, not_false_eq_true, not_true_eq_false, and_false, false_and, zb_0, zb_1, q10, k0, k8, k13, p1, p2, p3, p4, p5, p6, p7, p8, p9, q1, q2, q3, q4, e2, e3, e4, t1, t2, t3, t4, t5, t6, t7, t9, t10, t11, t12, t14, t15, t16, le8 h8, hn, c9 h, w1, er, w2, z0, g10_21, g10_40, g10_42] at ih' ⊢ <;> exact ih'
  exact (g10_0).trans (L n 0 (Nat.zero_add n))
def gDz (w : Int32) (x : QdM) : Int32 := if x.1 / nQ 100 = w then x.2.2.2 else nQ 0
theorem dz_sm (f : Nat → Int32) (w : Int32) : ∀ n, dzF f w n = smQ (gDz w) (Lq (qM f) n)
  | 0 => rfl
  | n + 1 => by
    unfold dzF
    rw [Lq_s, sm_app, dz_sm f w n]
    rfl
theorem c12 (h : ShS σ b) {n : Nat} (hn : d 8 0 = nQ n) (h60 : n ≤ 60) (w : Int32) : DoM 12 [.ref (b + 8), .int w] (sB 17 σ b d) = some (.inl (some (.int (smQ (gDz w) (Lq (qC d) n)))), sB 17 σ b d) := by
  obtain ⟨h8, ⟨k0, k8, k13⟩, ⟨p1, p2, p3, p4, p5, p6, p7, p8, p9⟩, ⟨q1, q2, q3, q4⟩, ⟨e2, e3, e4⟩, ⟨t1, t2, t3, t4, t5, t6, t7⟩, ⟨t9, t10, t11, t12⟩, ⟨t14, t15, t16⟩⟩ := id h
  have L : ∀ (m i : Nat), i + m = n → RuM 12 (4, [some (.ref (b + 8)), some (.int w), some (.int (smQ (gDz w) (Lq (qC d) i))), some (.int (nQ i))], [], 0, 0) (sB 17 σ b d) = some (.inl (some (.int (smQ (gDz w) (Lq (qC d) n)))), sB 17 σ b d) := by
    intro m
    induction m with
    | zero =>
      intro i e
      obtain rfl : i = n := e
      rw [g12_4]
      simp (disch := omega) only [aOk, eq_self, tk_sB, pr_sB, tk_wr, pr_wr, nQ_nat, nQ_neg, nQ_add, nQ_mul, nQ_lt, leF, ltT, ltF, rd_sB, rd_sB0, wr_sB, wr_sB0, cn_l, cn_r, Option.toList, List.cons_append, List.nil_append, if_true, if_false, true_and, and_true, or_false, false_or, true_or, or_true, not_false_eq_true, not_true_eq_false, and_false, false_and, zb_0, zb_1, q10, k0, k8, k13, p1, p2, p3, p4, p5, p6, p7, p8, p9, q1, q2, q3, q4, e2, e3, e4, t1, t2, t3, t4, t5, t6, t7, t9, t10, t11, t12, t14, t15, t16, le8 h8, hn]
    | succ m ih =>
      intro i e
      have ih' := ih (i + 1) (by omega)
      rw [Lq_s, sm_app] at ih'
      have hg : gDz w (qC d i) = if d 9 i / nQ 100 = w then d 12 i else nQ 0 := rfl
      have z0 : ∀ x : Int32, x + nQ 0 = x := fun x => Int32.add_zero x
      rw [hg] at ih'
      have hi : i < 60 := by omega
      rw [g12_4]
      by_cases w1 : d 9 i / nQ 100 = w <;> simp (disch := omega) only [aOk, eq_self, tk_sB, pr_sB, tk_wr, pr_wr, nQ_nat, nQ_neg, nQ_add, nQ_mul, nQ_lt, leF, ltT, ltF, rd_sB, rd_sB0, wr_sB, wr_sB0, cn_l, cn_r, Option.toList, List.cons_append, List.nil_append, if_true, if_false, true_and, and_true, or_false, false_or, true_or, or_true, not_false_eq_true, not_true_eq_false, and_false, false_and, zb_0, zb_1, q10, k0, k8, k13, p1, p2, p3, p4, p5, p6, p7, p8, p9, q1, q2, q3, q4, e2, e3, e4, t1, t2, t3, t4, t5, t6, t7, t9, t10, t11, t12, t14, t15, t16, le8 h8, hn, w1, z0, g12_34] at ih' ⊢ <;> exact ih'
  exact (g12_0).trans (L n 0 (Nat.zero_add n))
theorem c7 (h : ShS σ b) {n : Nat} (hn : d 8 0 = nQ n) (h60 : n < 60) (u g p z : Int32) : DoM 7 [.ref (b + 8), .int u, .int g, .int p, .int z] (sB 17 σ b d) = some (.inl none, sB 17 σ b (rX (rX (rX (rX (rX d 9 (up (d 9) n p)) 10 (up (d 10) n u)) 11 (up (d 11) n g)) 12 (up (d 12) n z)) 8 (up (d 8) 0 (nQ (n + 1))))) := by
  obtain ⟨h8, ⟨k0, k8, k13⟩, ⟨p1, p2, p3, p4, p5, p6, p7, p8, p9⟩, ⟨q1, q2, q3, q4⟩, ⟨e2, e3, e4⟩, ⟨t1, t2, t3, t4, t5, t6, t7⟩, ⟨t9, t10, t11, t12⟩, ⟨t14, t15, t16⟩⟩ := id h
  refine (g7_0).trans ?_
  simp (disch := omega) only [aOk, eq_self, tk_sB, pr_sB, tk_wr, pr_wr, nQ_nat, nQ_neg, nQ_add, nQ_mul, nQ_lt, leF, ltT, ltF, rd_sB, rd_sB0, wr_sB, wr_sB0, cn_l, cn_r, Option.toList, List.cons_append, List.nil_append, if_true, if_false, true_and, and_true, or_false, false_or, true_or, or_true, not_false_eq_true, not_true_eq_false, and_false, false_and, zb_0, zb_1, q10, k0, k8, k13, p1, p2, p3, p4, p5, p6, p7, p8, p9, q1, q2, q3, q4, e2, e3, e4, t1, t2, t3, t4, t5, t6, t7, t9, t10, t11, t12, t14, t15, t16, le8 h8, hn, rX_n, g7_20, g7_30, g7_40, g7_51, g7_61]
theorem c8 (h : ShS σ b) {n i : Nat} (hn : d 8 0 = nQ (n + 1)) (h60 : n < 60) (hi : i ≤ n) : DoM 8 [.ref (b + 8), .int (nQ i)] (sB 17 σ b d) = some (.inl none, sB 17 σ b (rX (rX (rX (rX (rX d 9 (up (d 9) i (d 9 n))) 10 (up (d 10) i (d 10 n))) 11 (up (d 11) i (d 11 n))) 12 (up (d 12) i (d 12 n))) 8 (up (d 8) 0 (nQ n)))) := by
  obtain ⟨h8, ⟨k0, k8, k13⟩, ⟨p1, p2, p3, p4, p5, p6, p7, p8, p9⟩, ⟨q1, q2, q3, q4⟩, ⟨e2, e3, e4⟩, ⟨t1, t2, t3, t4, t5, t6, t7⟩, ⟨t9, t10, t11, t12⟩, ⟨t14, t15, t16⟩⟩ := id h
  refine (g8_0).trans ?_
  simp (disch := omega) only [aOk, eq_self, tk_sB, pr_sB, tk_wr, pr_wr, nQ_nat, nQ_neg, nQ_add, nQ_mul, nQ_lt, leF, ltT, ltF, rd_sB, rd_sB0, wr_sB, wr_sB0, cn_l, cn_r, Option.toList, List.cons_append, List.nil_append, if_true, if_false, true_and, and_true, or_false, false_or, true_or, or_true, not_false_eq_true, not_true_eq_false, and_false, false_and, zb_0, zb_1, q10, k0, k8, k13, p1, p2, p3, p4, p5, p6, p7, p8, p9, q1, q2, q3, q4, e2, e3, e4, t1, t2, t3, t4, t5, t6, t7, t9, t10, t11, t12, t14, t15, t16, le8 h8, hn, nQ_sub, Nat.add_sub_cancel, rX_n, g8_16, g8_29, g8_41, g8_53, g8_65, g8_70]
theorem c16 (h : ShS σ b) {n : Nat} (hn : d 8 0 = nQ n) (h60 : n ≤ 60) (key : Int32) : DoM 16 [.ref b, .int key] (sB 17 σ b d) = some (.inl (some (.int (if n < 60 ∧ ∀ i, i < n → ¬ d 9 i = key then nQ 1 else nQ 0))), sB 17 σ b d) := by
  obtain ⟨h8, ⟨k0, k8, k13⟩, ⟨p1, p2, p3, p4, p5, p6, p7, p8, p9⟩, ⟨q1, q2, q3, q4⟩, ⟨e2, e3, e4⟩, ⟨t1, t2, t3, t4, t5, t6, t7⟩, ⟨t9, t10, t11, t12⟩, ⟨t14, t15, t16⟩⟩ := id h
  obtain ⟨v, e, hv⟩ := c6 h hn h60 key
  refine (g16_0).trans ?_
  by_cases c : n < 60
  · rcases hv with ⟨i, hi, rfl, hk⟩ | ⟨rfl, hk⟩
    · have hq := nQ_m1 (i := i) (by omega)
      rw [if_neg (fun z : (n < 60 ∧ ∀ i, i < n → ¬ d 9 i = key) => z.2 i hi hk)]
      simp (disch := omega) only [aOk, eq_self, tk_sB, pr_sB, tk_wr, pr_wr, nQ_nat, nQ_neg, nQ_add, nQ_mul, nQ_lt, leF, ltT, ltF, rd_sB, rd_sB0, wr_sB, wr_sB0, cn_l, cn_r, Option.toList, List.cons_append, List.nil_append, if_true, if_false, true_and, and_true, or_false, false_or, true_or, or_true, not_false_eq_true, not_true_eq_false, and_false, false_and, zb_0, zb_1, q10, k0, k8, k13, p1, p2, p3, p4, p5, p6, p7, p8, p9, q1, q2, q3, q4, e2, e3, e4, t1, t2, t3, t4, t5, t6, t7, t9, t10, t11, t12, t14, t15, t16, le8 h8, hn, c, e, hq, g16_20, g16_28, g16_29]
    · rw [if_pos (show (n < 60 ∧ ∀ i, i < n → ¬ d 9 i = key) from ⟨c, hk⟩)]
      simp (disch := omega) only [aOk, eq_self, tk_sB, pr_sB, tk_wr, pr_wr, nQ_nat, nQ_neg, nQ_add, nQ_mul, nQ_lt, leF, ltT, ltF, rd_sB, rd_sB0, wr_sB, wr_sB0, cn_l, cn_r, Option.toList, List.cons_append, List.nil_append, if_true, if_false, true_and, and_true, or_false, false_or, true_or, or_true, not_false_eq_true, not_true_eq_false, and_false, false_and, zb_0, zb_1, q10, k0, k8, k13, p1, p2, p3, p4, p5, p6, p7, p8, p9, q1, q2, q3, q4, e2, e3, e4, t1, t2, t3, t4, t5, t6, t7, t9, t10, t11, t12, t14, t15, t16, le8 h8, hn, c, e, g16_20, g16_28, g16_29]
  · rw [if_neg (fun z : (n < 60 ∧ ∀ i, i < n → ¬ d 9 i = key) => c z.1)]
    simp (disch := omega) only [aOk, eq_self, tk_sB, pr_sB, tk_wr, pr_wr, nQ_nat, nQ_neg, nQ_add, nQ_mul, nQ_lt, leF, ltT, ltF, rd_sB, rd_sB0, wr_sB, wr_sB0, cn_l, cn_r, Option.toList, List.cons_append, List.nil_append, if_true, if_false, true_and, and_true, or_false, false_or, true_or, or_true, not_false_eq_true, not_true_eq_false, and_false, false_and, zb_0, zb_1, q10, k0, k8, k13, p1, p2, p3, p4, p5, p6, p7, p8, p9, q1, q2, q3, q4, e2, e3, e4, t1, t2, t3, t4, t5, t6, t7, t9, t10, t11, t12, t14, t15, t16, le8 h8, hn, c, g16_20, g16_28, g16_29]
end Cv
