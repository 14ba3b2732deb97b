/-! The model's operations on a file that is there. -/
abbrev disF (f : Nat → Int32) (n : Nat) : Prop := ∀ i j, i < n → j < n → f (5 + 4 * i) = f (5 + 4 * j) → i = j
section Mj
variable {σ : Mem} {b : Nat} {d : Nat → Nat → Int32}
theorem m114_i (h : ShM σ b) {n : Nat} (hn : d 1 4 = nQ n) (h60 : n ≤ 60) (hd : disF (d 1) n) {w x : Int32} {i : Nat} (hi : i < n) (hk : d 1 (5 + 4 * i) = nQ 100 * w + x) : DoM 114 [.ref b, .int w, .int x] (sB 7 σ b d) = some (.inl (some (.int (nQ i))), sB 7 σ b d) := by
  obtain ⟨v, e, hf⟩ := m114 h hn h60 w x
  rw [e]
  rcases hf with ⟨j, h1, h2, h3⟩ | ⟨-, h2⟩
  · rw [h2, hd i j hi h1 (hk.trans h3.symm)]
  · exact absurd hk (h2 i hi)
theorem m114_n (h : ShM σ b) {n : Nat} (hn : d 1 4 = nQ n) (h60 : n ≤ 60) {w x : Int32} (hk : ∀ i, i < n → ¬ d 1 (5 + 4 * i) = nQ 100 * w + x) : DoM 114 [.ref b, .int w, .int x] (sB 7 σ b d) = some (.inl (some (.int (-1))), sB 7 σ b d) := by
  obtain ⟨v, e, hf⟩ := m114 h hn h60 w x
  rw [e]
  rcases hf with ⟨j, h1, h2, h3⟩ | ⟨h2, -⟩
  · exact absurd h3 (hk j h1)
  · rw [h2]
theorem nQ_m1 {i : Nat} (h : i < 2147483648) : (nQ i = -1) = False := by
  refine propext ⟨fun e => ?_, fun e => e.elim⟩
  have := congrArg Int32.toInt e
  rw [nQ_int h] at this
  have e : ((-1 : Int32)).toInt = -1 := by decide
  omega
theorem m136_1 (h : ShM σ b) {v w : Int32} (hx : ¬ (inP v (nQ 0) (nQ 9) ∧ inP w (nQ 0) (nQ 99))) : DoM 136 [.ref b, .int v, .int w] (sB 7 σ b d) = some (.inl (some (.int (nQ 0))), sB 7 σ b (thF d 1)) := by
  have h0 := h.2.1
  refine (g136_0).trans ?_
  simp (disch := omega) only [m110, if_z, eq_false hx, aOk, eq_self, tk_sB, pr_sB, tk_wr, pr_wr, nQ_nat, nQ_neg, nQ_add, nQ_mul, nQ_lt, leF, ltT, ltF, rd_sB, rd_sB0, wr_sB, wr_sB0, cn_l, cn_r, Option.toList, List.cons_append, List.nil_append, if_true, if_false, true_and, and_true, or_false, false_or, true_or, or_true, not_false_eq_true, not_true_eq_false, and_false, false_and, zb_0, zb_1, q10, h0, m107 h, g136_6, g136_19, g136_28, g136_31, g136_40, g136_47, g136_50]
theorem m136_2 (h : ShM σ b) {n : Nat} (hn : d 1 4 = nQ n) (h60 : n ≤ 60) {v w : Int32} (hx : inP v (nQ 0) (nQ 9) ∧ inP w (nQ 0) (nQ 99)) (hk : ∀ i, i < n → ¬ d 1 (5 + 4 * i) = nQ 100 * v + w) : DoM 136 [.ref b, .int v, .int w] (sB 7 σ b d) = some (.inl (some (.int (nQ 0))), sB 7 σ b (thF d 2)) := by
  have h0 := h.2.1
  have e := m114_n h hn h60 hk
  have hx' := eq_true hx
  refine (g136_0).trans ?_
  simp (disch := omega) only [m110, if_z, hx', aOk, eq_self, tk_sB, pr_sB, tk_wr, pr_wr, nQ_nat, nQ_neg, nQ_add, nQ_mul, nQ_lt, leF, ltT, ltF, rd_sB, rd_sB0, wr_sB, wr_sB0, cn_l, cn_r, Option.toList, List.cons_append, List.nil_append, if_true, if_false, true_and, and_true, or_false, false_or, true_or, or_true, not_false_eq_true, not_true_eq_false, and_false, false_and, zb_0, zb_1, q10, h0, e, q20, m107 h, g136_6, g136_19, g136_28, g136_31, g136_40, g136_47, g136_50]
theorem m136_0 (h : ShM σ b) {n c : Nat} (hn : d 1 4 = nQ n) (h60 : n ≤ 60) (hc : d 0 2 = nQ c) (h6 : c ≤ 6) (hd : disF (d 1) n) {v w : Int32} (hx : inP v (nQ 0) (nQ 9) ∧ inP w (nQ 0) (nQ 99)) {i : Nat} (hi : i < n) (hk : d 1 (5 + 4 * i) = nQ 100 * v + w) : DoM 136 [.ref b, .int v, .int w] (sB 7 σ b d) = some (.inl (some (.int (d 1 (5 + 4 * i + 3)))), sB 7 σ b (rX (kdF d c) 1 (deF (kpF (d 1) c) n i))) := by
  have h0 := h.2.1
  have e := m114_i h hn h60 hd hi hk
  have hx' := eq_true hx
  have hn2 : kdF d c 1 4 = nQ n := (kp_lo _ _ (by omega)).trans hn
  have hd2 : disF (kdF d c 1) n := fun i j h1 h2 h3 => hd i j h1 h2 (by
    have h3 : kpF (d 1) c (5 + 4 * i) = kpF (d 1) c (5 + 4 * j) := h3
    rwa [kp_lo _ _ (by omega), kp_lo _ _ (by omega)] at h3)
  have hk2 : kdF d c 1 (5 + 4 * i) = nQ 100 * v + w := (kp_lo _ _ (by omega)).trans hk
  have e2 := m114_i (d := kdF d c) h hn2 h60 hd2 hi hk2
  have e3 := m129 (d := kdF d c) h hn2 h60 hi
  have e4 : kdF d c 1 (5 + 4 * i + 3) = d 1 (5 + 4 * i + 3) := kp_lo _ _ (by omega)
  refine (g136_0).trans ?_
  simp (disch := omega) only [m110, if_z, hx', aOk, eq_self, tk_sB, pr_sB, tk_wr, pr_wr, nQ_nat, nQ_neg, nQ_add, nQ_mul, nQ_lt, leF, ltT, ltF, rd_sB, rd_sB0, wr_sB, wr_sB0, cn_l, cn_r, Option.toList, List.cons_append, List.nil_append, if_true, if_false, true_and, and_true, or_false, false_or, true_or, or_true, not_false_eq_true, not_true_eq_false, and_false, false_and, zb_0, zb_1, q10, h0, e, q10, nQ_m1, m107 h, g136_6, g136_19, g136_28]
  rw [g136_31]
  simp (disch := omega) only [aOk, eq_self, tk_sB, pr_sB, tk_wr, pr_wr, nQ_nat, nQ_neg, nQ_add, nQ_mul, nQ_lt, leF, ltT, ltF, rd_sB, rd_sB0, wr_sB, wr_sB0, cn_l, cn_r, Option.toList, List.cons_append, List.nil_append, if_true, if_false, true_and, and_true, or_false, false_or, true_or, or_true, not_false_eq_true, not_true_eq_false, and_false, false_and, zb_0, zb_1, q10, h0, q10, mk133 h hc h6]
  rw [g136_40]
  simp (disch := omega) only [aOk, eq_self, tk_sB, pr_sB, tk_wr, pr_wr, nQ_nat, nQ_neg, nQ_add, nQ_mul, nQ_lt, leF, ltT, ltF, rd_sB, rd_sB0, wr_sB, wr_sB0, cn_l, cn_r, Option.toList, List.cons_append, List.nil_append, if_true, if_false, true_and, and_true, or_false, false_or, true_or, or_true, not_false_eq_true, not_true_eq_false, and_false, false_and, zb_0, zb_1, q10, h0, e2]
  rw [g136_47]
  simp (disch := omega) only [aOk, eq_self, tk_sB, pr_sB, tk_wr, pr_wr, nQ_nat, nQ_neg, nQ_add, nQ_mul, nQ_lt, leF, ltT, ltF, rd_sB, rd_sB0, wr_sB, wr_sB0, cn_l, cn_r, Option.toList, List.cons_append, List.nil_append, if_true, if_false, true_and, and_true, or_false, false_or, true_or, or_true, not_false_eq_true, not_true_eq_false, and_false, false_and, zb_0, zb_1, q10, h0, e3, e4, g136_50]
  rfl
theorem q30 : (nQ 3 = nQ 0) = False := by rw [nQ_eq (by decide) (by decide)]; simp
theorem m135_1 (h : ShM σ b) {v w z : Int32} (hx : ¬ (inP v (nQ 0) (nQ 9) ∧ inP w (nQ 0) (nQ 99))) : DoM 135 [.ref b, .int v, .int w, .int z] (sB 7 σ b d) = some (.inl (some (.int (nQ 0))), sB 7 σ b (thF d 1)) := by
  have h0 := h.2.1
  refine (g135_0).trans ?_
  simp (disch := omega) only [m110, if_z, eq_false hx, aOk, eq_self, tk_sB, pr_sB, tk_wr, pr_wr, nQ_nat, nQ_neg, nQ_add, nQ_mul, nQ_lt, leF, ltT, ltF, rd_sB, rd_sB0, wr_sB, wr_sB0, cn_l, cn_r, Option.toList, List.cons_append, List.nil_append, if_true, if_false, true_and, and_true, or_false, false_or, true_or, or_true, not_false_eq_true, not_true_eq_false, and_false, false_and, zb_0, zb_1, q10, h0, m107 h, g135_5, g135_25, g135_38, g135_47, g135_50, g135_59, g135_66, g135_70]
theorem m135_2 (h : ShM σ b) {v w z : Int32} (hx : inP v (nQ 0) (nQ 9) ∧ inP w (nQ 0) (nQ 99)) (hz : ¬ inP z (nQ 0) (nQ 5000)) : DoM 135 [.ref b, .int v, .int w, .int z] (sB 7 σ b d) = some (.inl (some (.int (nQ 0))), sB 7 σ b (thF d 2)) := by
  have h0 := h.2.1
  have hx' := eq_true hx
  refine (g135_0).trans ?_
  simp (disch := omega) only [m110, m106, if_z, hx', eq_false hz, aOk, eq_self, tk_sB, pr_sB, tk_wr, pr_wr, nQ_nat, nQ_neg, nQ_add, nQ_mul, nQ_lt, leF, ltT, ltF, rd_sB, rd_sB0, wr_sB, wr_sB0, cn_l, cn_r, Option.toList, List.cons_append, List.nil_append, if_true, if_false, true_and, and_true, or_false, false_or, true_or, or_true, not_false_eq_true, not_true_eq_false, and_false, false_and, zb_0, zb_1, q10, h0, q20, m107 h, g135_5, g135_25, g135_38, g135_47, g135_50, g135_59, g135_66, g135_70]
theorem m135_3 (h : ShM σ b) {n : Nat} (hn : d 1 4 = nQ n) (h60 : n ≤ 60) {v w z : Int32} (hx : inP v (nQ 0) (nQ 9) ∧ inP w (nQ 0) (nQ 99)) (hz : inP z (nQ 0) (nQ 5000)) (hk : ∀ i, i < n → ¬ d 1 (5 + 4 * i) = nQ 100 * v + w) : DoM 135 [.ref b, .int v, .int w, .int z] (sB 7 σ b d) = some (.inl (some (.int (nQ 0))), sB 7 σ b (thF d 3)) := by
  have h0 := h.2.1
  have e := m114_n h hn h60 hk
  have hx' := eq_true hx
  have hz' := eq_true hz
  refine (g135_0).trans ?_
  simp (disch := omega) only [m110, m106, if_z, hx', hz', aOk, eq_self, tk_sB, pr_sB, tk_wr, pr_wr, nQ_nat, nQ_neg, nQ_add, nQ_mul, nQ_lt, leF, ltT, ltF, rd_sB, rd_sB0, wr_sB, wr_sB0, cn_l, cn_r, Option.toList, List.cons_append, List.nil_append, if_true, if_false, true_and, and_true, or_false, false_or, true_or, or_true, not_false_eq_true, not_true_eq_false, and_false, false_and, zb_0, zb_1, q10, h0, e, q10, q30, m107 h, g135_5, g135_25, g135_38, g135_47, g135_50, g135_59, g135_66, g135_70]
theorem m135_0 (h : ShM σ b) {n c : Nat} (hn : d 1 4 = nQ n) (h60 : n ≤ 60) (hc : d 0 2 = nQ c) (h6 : c ≤ 6) (hd : disF (d 1) n) {v w z : Int32} (hx : inP v (nQ 0) (nQ 9) ∧ inP w (nQ 0) (nQ 99)) (hz : inP z (nQ 0) (nQ 5000)) {i u g : Nat} (hi : i < n) (hk : d 1 (5 + 4 * i) = nQ 100 * v + w) (hu : u < 6) (hg : g < 3) (eu : d 1 (5 + 4 * i + 1) = nQ u) (eg : d 1 (5 + 4 * i + 2) = nQ g) :
    DoM 135 [.ref b, .int v, .int w, .int z] (sB 7 σ b d) = some (.inl (some (.int (nQ (raN (kpF (d 1) c) n (riF (d 5) (moF (kpF (d 1) c) i z) (nQ 0) (moF (kpF (d 1) c) i z) (nQ 0)) u g)))), sB 7 σ b (rX (rX (kdF d c) 5 (riF (d 5) (moF (kpF (d 1) c) i z) (nQ 0) (moF (kpF (d 1) c) i z) (nQ 0))) 1 (rsF (kpF (d 1) c) n (riF (d 5) (moF (kpF (d 1) c) i z) (nQ 0) (moF (kpF (d 1) c) i z) (nQ 0)) u g i z))) := by
  have h0 := h.2.1
  have e := m114_i h hn h60 hd hi hk
  have hx' := eq_true hx
  have hz' := eq_true hz
  have hn2 : kdF d c 1 4 = nQ n := (kp_lo _ _ (by omega)).trans hn
  have hd2 : disF (kdF d c 1) n := fun i j h1 h2 h3 => hd i j h1 h2 (by
    have h3 : kpF (d 1) c (5 + 4 * i) = kpF (d 1) c (5 + 4 * j) := h3
    rwa [kp_lo _ _ (by omega), kp_lo _ _ (by omega)] at h3)
  have hk2 : kdF d c 1 (5 + 4 * i) = nQ 100 * v + w := (kp_lo _ _ (by omega)).trans hk
  have e2 := m114_i (d := kdF d c) h hn2 h60 hd2 hi hk2
  have e3 : DoM 128 [.ref b, .int (nQ i), .int z] (sB 7 σ b (kdF d c)) = some (.inl (some (.int (nQ (raN (kpF (d 1) c) n (riF (d 5) (moF (kpF (d 1) c) i z) (nQ 0) (moF (kpF (d 1) c) i z) (nQ 0)) u g)))), sB 7 σ b (rX (rX (kdF d c) 5 (riF (d 5) (moF (kpF (d 1) c) i z) (nQ 0) (moF (kpF (d 1) c) i z) (nQ 0))) 1 (rsF (kpF (d 1) c) n (riF (d 5) (moF (kpF (d 1) c) i z) (nQ 0) (moF (kpF (d 1) c) i z) (nQ 0)) u g i z))) :=
    m128 (d := kdF d c) h hn2 h60 hi hu hg ((kp_lo _ _ (by omega)).trans eu) ((kp_lo _ _ (by omega)).trans eg) z
  refine (g135_0).trans ?_
  simp (disch := omega) only [m110, m106, if_z, hx', hz', aOk, eq_self, tk_sB, pr_sB, tk_wr, pr_wr, nQ_nat, nQ_neg, nQ_add, nQ_mul, nQ_lt, leF, ltT, ltF, rd_sB, rd_sB0, wr_sB, wr_sB0, cn_l, cn_r, Option.toList, List.cons_append, List.nil_append, if_true, if_false, true_and, and_true, or_false, false_or, true_or, or_true, not_false_eq_true, not_true_eq_false, and_false, false_and, zb_0, zb_1, q10, h0, e, q10, nQ_m1, m107 h, g135_5, g135_25, g135_38, g135_47]
  rw [g135_50]
  simp (disch := omega) only [aOk, eq_self, tk_sB, pr_sB, tk_wr, pr_wr, nQ_nat, nQ_neg, nQ_add, nQ_mul, nQ_lt, leF, ltT, ltF, rd_sB, rd_sB0, wr_sB, wr_sB0, cn_l, cn_r, Option.toList, List.cons_append, List.nil_append, if_true, if_false, true_and, and_true, or_false, false_or, true_or, or_true, not_false_eq_true, not_true_eq_false, and_false, false_and, zb_0, zb_1, q10, h0, q10, mk133 h hc h6]
  rw [g135_59]
  simp (disch := omega) only [aOk, eq_self, tk_sB, pr_sB, tk_wr, pr_wr, nQ_nat, nQ_neg, nQ_add, nQ_mul, nQ_lt, leF, ltT, ltF, rd_sB, rd_sB0, wr_sB, wr_sB0, cn_l, cn_r, Option.toList, List.cons_append, List.nil_append, if_true, if_false, true_and, and_true, or_false, false_or, true_or, or_true, not_false_eq_true, not_true_eq_false, and_false, false_and, zb_0, zb_1, q10, h0, e2]
  rw [g135_66]
  simp (disch := omega) only [aOk, eq_self, tk_sB, pr_sB, tk_wr, pr_wr, nQ_nat, nQ_neg, nQ_add, nQ_mul, nQ_lt, leF, ltT, ltF, rd_sB, rd_sB0, wr_sB, wr_sB0, cn_l, cn_r, Option.toList, List.cons_append, List.nil_append, if_true, if_false, true_and, and_true, or_false, false_or, true_or, or_true, not_false_eq_true, not_true_eq_false, and_false, false_and, zb_0, zb_1, q10, h0, e3, g135_70]
theorem m137_1 (h : ShM σ b) {v w x y : Int32} (hx : ¬ (inP v (nQ 0) (nQ 9) ∧ inP w (nQ 0) (nQ 99) ∧ inP x (nQ 0) (nQ 5) ∧ inP y (nQ 0) (nQ 2))) : DoM 137 [.ref b, .int v, .int w, .int x, .int y] (sB 7 σ b d) = some (.inl (some (.int (nQ 0))), sB 7 σ b (thF d 1)) := by
  have h0 := h.2.1
  refine (g137_0).trans ?_
  by_cases c1 : inP v (nQ 0) (nQ 9) ∧ inP w (nQ 0) (nQ 99)
  · have c1' := eq_true c1
    by_cases c2 : inP x (nQ 0) (nQ 5)
    · have c3 : ¬ inP y (nQ 0) (nQ 2) := fun z => hx ⟨c1.1, c1.2, c2, z⟩
      simp (disch := omega) only [m110, m108, m109, if_z, c1', eq_true c2, eq_false c3, aOk, eq_self, tk_sB, pr_sB, tk_wr, pr_wr, nQ_nat, nQ_neg, nQ_add, nQ_mul, nQ_lt, leF, ltT, ltF, rd_sB, rd_sB0, wr_sB, wr_sB0, cn_l, cn_r, Option.toList, List.cons_append, List.nil_append, if_true, if_false, true_and, and_true, or_false, false_or, true_or, or_true, not_false_eq_true, not_true_eq_false, and_false, false_and, zb_0, zb_1, q10, h0, m107 h, g137_5, g137_12, g137_20, g137_27, g137_28, g137_46, g137_55, g137_58, g137_67, g137_74, g137_80]
    · simp (disch := omega) only [m110, m108, m109, if_z, c1', eq_false c2, aOk, eq_self, tk_sB, pr_sB, tk_wr, pr_wr, nQ_nat, nQ_neg, nQ_add, nQ_mul, nQ_lt, leF, ltT, ltF, rd_sB, rd_sB0, wr_sB, wr_sB0, cn_l, cn_r, Option.toList, List.cons_append, List.nil_append, if_true, if_false, true_and, and_true, or_false, false_or, true_or, or_true, not_false_eq_true, not_true_eq_false, and_false, false_and, zb_0, zb_1, q10, h0, m107 h, g137_5, g137_12, g137_20, g137_27, g137_28, g137_46, g137_55, g137_58, g137_67, g137_74, g137_80]
  · simp (disch := omega) only [m110, m108, m109, if_z, eq_false c1, aOk, eq_self, tk_sB, pr_sB, tk_wr, pr_wr, nQ_nat, nQ_neg, nQ_add, nQ_mul, nQ_lt, leF, ltT, ltF, rd_sB, rd_sB0, wr_sB, wr_sB0, cn_l, cn_r, Option.toList, List.cons_append, List.nil_append, if_true, if_false, true_and, and_true, or_false, false_or, true_or, or_true, not_false_eq_true, not_true_eq_false, and_false, false_and, zb_0, zb_1, q10, h0, m107 h, g137_5, g137_12, g137_20, g137_27, g137_28, g137_46, g137_55, g137_58, g137_67, g137_74, g137_80]
theorem m137_2 (h : ShM σ b) {n : Nat} (hn : d 1 4 = nQ n) (h60 : n ≤ 60) {v w x y : Int32} (hx : inP v (nQ 0) (nQ 9) ∧ inP w (nQ 0) (nQ 99)) (hy : inP x (nQ 0) (nQ 5)) (hz : inP y (nQ 0) (nQ 2)) (hk : ∀ i, i < n → ¬ d 1 (5 + 4 * i) = nQ 100 * v + w) : DoM 137 [.ref b, .int v, .int w, .int x, .int y] (sB 7 σ b d) = some (.inl (some (.int (nQ 0))), sB 7 σ b (thF d 2)) := by
  have h0 := h.2.1
  have e := m114_n h hn h60 hk
  have hx' := eq_true hx
  have hy' := eq_true hy
  have hz' := eq_true hz
  refine (g137_0).trans ?_
  simp (disch := omega) only [m110, m108, m109, if_z, hx', hy', hz', aOk, eq_self, tk_sB, pr_sB, tk_wr, pr_wr, nQ_nat, nQ_neg, nQ_add, nQ_mul, nQ_lt, leF, ltT, ltF, rd_sB, rd_sB0, wr_sB, wr_sB0, cn_l, cn_r, Option.toList, List.cons_append, List.nil_append, if_true, if_false, true_and, and_true, or_false, false_or, true_or, or_true, not_false_eq_true, not_true_eq_false, and_false, false_and, zb_0, zb_1, q10, h0, e, q10, q20, m107 h, g137_5, g137_12, g137_20, g137_27, g137_28, g137_46, g137_55, g137_58, g137_67, g137_74, g137_80]
theorem m137_0 (h : ShM σ b) {n c : Nat} (hn : d 1 4 = nQ n) (h60 : n ≤ 60) (hc : d 0 2 = nQ c) (h6 : c ≤ 6) (hd : disF (d 1) n) {v w : Int32} (hx : inP v (nQ 0) (nQ 9) ∧ inP w (nQ 0) (nQ 99)) {i u g : Nat} (hi : i < n) (hk : d 1 (5 + 4 * i) = nQ 100 * v + w) (hu : u < 6) (hg : g < 3) :
    DoM 137 [.ref b, .int v, .int w, .int (nQ u), .int (nQ g)] (sB 7 σ b d) = some (.inl (some (.int (nQ (raN (kpF (d 1) c) n (mrF (kpF (d 1) c) (d 5) u g i) u g)))), sB 7 σ b (rX (rX (kdF d c) 5 (mrF (kpF (d 1) c) (d 5) u g i)) 1 (mvF (kpF (d 1) c) n (mrF (kpF (d 1) c) (d 5) u g i) u g i))) := by
  have h0 := h.2.1
  have e := m114_i h hn h60 hd hi hk
  have hx' := eq_true hx
  have hy' : inP (nQ u) (nQ 0) (nQ 5) = True := eq_true (in_Q (by omega) (by decide))
  have hz' : inP (nQ g) (nQ 0) (nQ 2) = True := eq_true (in_Q (by omega) (by decide))
  have hn2 : kdF d c 1 4 = nQ n := (kp_lo _ _ (by omega)).trans hn
  have hd2 : disF (kdF d c 1) n := fun i j h1 h2 h3 => hd i j h1 h2 (by
    have h3 : kpF (d 1) c (5 + 4 * i) = kpF (d 1) c (5 + 4 * j) := h3
    rwa [kp_lo _ _ (by omega), kp_lo _ _ (by omega)] at h3)
  have hk2 : kdF d c 1 (5 + 4 * i) = nQ 100 * v + w := (kp_lo _ _ (by omega)).trans hk
  have e2 := m114_i (d := kdF d c) h hn2 h60 hd2 hi hk2
  have e3 : DoM 130 [.ref b, .int (nQ i), .int (nQ u), .int (nQ g)] (sB 7 σ b (kdF d c)) = some (.inl (some (.int (nQ (raN (kpF (d 1) c) n (mrF (kpF (d 1) c) (d 5) u g i) u g)))), sB 7 σ b (rX (rX (kdF d c) 5 (mrF (kpF (d 1) c) (d 5) u g i)) 1 (mvF (kpF (d 1) c) n (mrF (kpF (d 1) c) (d 5) u g i) u g i))) := m130 (d := kdF d c) h hn2 h60 hi hu hg
  refine (g137_0).trans ?_
  simp (disch := omega) only [m110, m108, m109, if_z, hx', hy', hz', aOk, eq_self, tk_sB, pr_sB, tk_wr, pr_wr, nQ_nat, nQ_neg, nQ_add, nQ_mul, nQ_lt, leF, ltT, ltF, rd_sB, rd_sB0, wr_sB, wr_sB0, cn_l, cn_r, Option.toList, List.cons_append, List.nil_append, if_true, if_false, true_and, and_true, or_false, false_or, true_or, or_true, not_false_eq_true, not_true_eq_false, and_false, false_and, zb_0, zb_1, q10, h0, e, q10, nQ_m1, m107 h, g137_5, g137_12, g137_20, g137_27, g137_28, g137_46, g137_55]
  rw [g137_58]
  simp (disch := omega) only [aOk, eq_self, tk_sB, pr_sB, tk_wr, pr_wr, nQ_nat, nQ_neg, nQ_add, nQ_mul, nQ_lt, leF, ltT, ltF, rd_sB, rd_sB0, wr_sB, wr_sB0, cn_l, cn_r, Option.toList, List.cons_append, List.nil_append, if_true, if_false, true_and, and_true, or_false, false_or, true_or, or_true, not_false_eq_true, not_true_eq_false, and_false, false_and, zb_0, zb_1, q10, h0, q10, mk133 h hc h6]
  rw [g137_67]
  simp (disch := omega) only [aOk, eq_self, tk_sB, pr_sB, tk_wr, pr_wr, nQ_nat, nQ_neg, nQ_add, nQ_mul, nQ_lt, leF, ltT, ltF, rd_sB, rd_sB0, wr_sB, wr_sB0, cn_l, cn_r, Option.toList, List.cons_append, List.nil_append, if_true, if_false, true_and, and_true, or_false, false_or, true_or, or_true, not_false_eq_true, not_true_eq_false, and_false, false_and, zb_0, zb_1, q10, h0, e2]
  rw [g137_74]
  simp (disch := omega) only [aOk, eq_self, tk_sB, pr_sB, tk_wr, pr_wr, nQ_nat, nQ_neg, nQ_add, nQ_mul, nQ_lt, leF, ltT, ltF, rd_sB, rd_sB0, wr_sB, wr_sB0, cn_l, cn_r, Option.toList, List.cons_append, List.nil_append, if_true, if_false, true_and, and_true, or_false, false_or, true_or, or_true, not_false_eq_true, not_true_eq_false, and_false, false_and, zb_0, zb_1, q10, h0, e3, g137_80]
end Mj
