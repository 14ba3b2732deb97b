/-! The model's public methods. -/
theorem in_ex {v : Int32} {N : Nat} (h : inP v (nQ 0) (nQ N)) (hN : N < 2147483647) : ∃ n, n ≤ N ∧ v = nQ n := by
  obtain ⟨h1, h2⟩ := h
  rw [Int32.lt_iff_toInt_lt] at h1 h2
  rw [nQ_int (by decide)] at h1
  rw [nQ_int (by omega)] at h2
  refine ⟨v.toInt.toNat, by omega, ?_⟩
  apply Int32.toInt_inj.mp
  rw [nQ_int (by omega)]
  omega
section Mg
variable {σ : Mem} {b : Nat} {d : Nat → Nat → Int32}
/-- the thrown code set -/
abbrev thF (d : Nat → Nat → Int32) (k : Nat) : Nat → Nat → Int32 := rX d 0 (up (d 0) 0 (nQ k))
/-- the state kept behind the thrown code 0 -/
abbrev kdF (d : Nat → Nat → Int32) (c : Nat) : Nat → Nat → Int32 := rX (rX (thF d 0) 0 (up (thF d 0 0) 2 (nQ (if c = 6 then 6 else c + 1)))) 1 (kpF (d 1) c)
theorem m134_1 (h : ShM σ b) {u g w x z : Int32} (hx : ¬ (inP u (nQ 0) (nQ 5) ∧ inP g (nQ 0) (nQ 2) ∧ inP w (nQ 0) (nQ 9) ∧ inP x (nQ 0) (nQ 99))) : DoM 134 [.ref b, .int u, .int g, .int w, .int x, .int z] (sB 7 σ b d) = some (.inl (some (.int (nQ 0))), sB 7 σ b (thF d 1)) := by
  have h0 := h.2.1
  refine (g134_0).trans ?_
  have K : ∀ o7, RuM 134 (62, [some (.ref b), some (.int u), some (.int g), some (.int w), some (.int x), some (.int z), some (.int (nQ 0)), o7], [.int (nQ 0)], 0, 0) (sB 7 σ b d) = some (.inl (some (.int (nQ 0))), sB 7 σ b (thF d 1)) := by
    intro o7
    simp (disch := omega) only [aOk, eq_self, tk_sB, pr_sB, tk_wr, pr_wr, nQ_nat, nQ_neg, nQ_add, nQ_mul, nQ_lt, leF, ltT, ltF, rd_sB, rd_sB0, wr_sB, wr_sB0, cn_l, cn_r, Option.toList, List.cons_append, List.nil_append, if_true, if_false, true_and, and_true, or_false, false_or, true_or, or_true, not_false_eq_true, not_true_eq_false, and_false, false_and, zb_0, zb_1, q10, h0, m107 h, q10, g134_62, g134_100, g134_103]
  by_cases c1 : inP u (nQ 0) (nQ 5)
  · by_cases c2 : inP g (nQ 0) (nQ 2)
    · have c3 : ¬ (inP w (nQ 0) (nQ 9) ∧ inP x (nQ 0) (nQ 99)) := fun z => hx ⟨c1, c2, z⟩
      simp (disch := omega) only [m108, m109, m110, if_z, eq_true c1, eq_true c2, eq_false c3, aOk, eq_self, tk_sB, pr_sB, tk_wr, pr_wr, nQ_nat, nQ_neg, nQ_add, nQ_mul, nQ_lt, leF, ltT, ltF, rd_sB, rd_sB0, wr_sB, wr_sB0, cn_l, cn_r, Option.toList, List.cons_append, List.nil_append, if_true, if_false, true_and, and_true, or_false, false_or, true_or, or_true, not_false_eq_true, not_true_eq_false, and_false, false_and, zb_0, zb_1, q10, K, g134_4, g134_11, g134_20, g134_27, g134_28, g134_42, g134_61, g134_127]
    · simp (disch := omega) only [m108, m109, m110, if_z, eq_true c1, eq_false c2, aOk, eq_self, tk_sB, pr_sB, tk_wr, pr_wr, nQ_nat, nQ_neg, nQ_add, nQ_mul, nQ_lt, leF, ltT, ltF, rd_sB, rd_sB0, wr_sB, wr_sB0, cn_l, cn_r, Option.toList, List.cons_append, List.nil_append, if_true, if_false, true_and, and_true, or_false, false_or, true_or, or_true, not_false_eq_true, not_true_eq_false, and_false, false_and, zb_0, zb_1, q10, K, g134_4, g134_11, g134_20, g134_27, g134_28, g134_42, g134_61, g134_127]
  · simp (disch := omega) only [m108, m109, m110, if_z, eq_false c1, aOk, eq_self, tk_sB, pr_sB, tk_wr, pr_wr, nQ_nat, nQ_neg, nQ_add, nQ_mul, nQ_lt, leF, ltT, ltF, rd_sB, rd_sB0, wr_sB, wr_sB0, cn_l, cn_r, Option.toList, List.cons_append, List.nil_append, if_true, if_false, true_and, and_true, or_false, false_or, true_or, or_true, not_false_eq_true, not_true_eq_false, and_false, false_and, zb_0, zb_1, q10, K, g134_4, g134_11, g134_20, g134_27, g134_28, g134_42, g134_61, g134_127]
theorem fa_no {f : Nat → Int32} {n : Nat} {key v : Int32} (h : FaF f n key v) (hv : v = -1) (h60 : n ≤ 60) : ∀ i, i < n → ¬ f (5 + 4 * i) = key := by
  rcases h with ⟨i, h1, h2, h3⟩ | ⟨-, h⟩
  · rw [hv] at h2
    have := congrArg Int32.toInt h2
    rw [nQ_int (by omega)] at this
    have e : ((-1 : Int32)).toInt = -1 := by decide
    omega
  · exact h
theorem fa_yes {f : Nat → Int32} {n : Nat} {key v : Int32} (h : FaF f n key v) (hv : ¬ v = -1) : ∃ i, i < n ∧ v = nQ i ∧ f (5 + 4 * i) = key := by
  rcases h with h | ⟨h, -⟩
  · exact h
  · exact absurd h hv
theorem m134_m (h : ShM σ b) {n : Nat} (hn : d 1 4 = nQ n) (h60 : n ≤ 60) {u g w x z : Int32} (c1 : inP u (nQ 0) (nQ 5)) (c2 : inP g (nQ 0) (nQ 2)) (c3 : inP w (nQ 0) (nQ 9)) (c4 : inP x (nQ 0) (nQ 99)) :
    ∃ v, FaF (d 1) n (nQ 100 * w + x) v ∧ DoM 134 [.ref b, .int u, .int g, .int w, .int x, .int z] (sB 7 σ b d) = RuM 134 (62, [some (.ref b), some (.int u), some (.int g), some (.int w), some (.int x), some (.int z), some (.int (nQ 1)), none], [.int (if v = -1 ∧ n < 60 then nQ 1 else nQ 0)], 0, 0) (sB 7 σ b d) := by
  obtain ⟨h8, h0, ⟨p1, p2, p3, p4, p5, p6⟩, t1, t2, t3, t4, t5, t6⟩ := id h
  obtain ⟨v, hv, hf⟩ := m114 h hn h60 w x
  refine ⟨v, hf, (g134_0).trans ?_⟩
  have e3 : (inP w (nQ 0) (nQ 9) ∧ inP x (nQ 0) (nQ 99)) = True := eq_true ⟨c3, c4⟩
  simp (disch := omega) only [m108, m109, m110, if_z, eq_true c1, eq_true c2, e3, aOk, eq_self, tk_sB, pr_sB, tk_wr, pr_wr, nQ_nat, nQ_neg, nQ_add, nQ_mul, nQ_lt, leF, ltT, ltF, rd_sB, rd_sB0, wr_sB, wr_sB0, cn_l, cn_r, Option.toList, List.cons_append, List.nil_append, if_true, if_false, true_and, and_true, or_false, false_or, true_or, or_true, not_false_eq_true, not_true_eq_false, and_false, false_and, zb_0, zb_1, q10, h0, p1, t1, hn, hv, q10, g134_4, g134_11, g134_20, g134_27, g134_28, g134_42, g134_61]
  by_cases hv1 : v = -1 <;> by_cases hv2 : n < 60 <;> simp only [hv1, hv2, aOk, eq_self, tk_sB, pr_sB, tk_wr, pr_wr, nQ_nat, nQ_neg, nQ_add, nQ_mul, nQ_lt, leF, ltT, ltF, rd_sB, rd_sB0, wr_sB, wr_sB0, cn_l, cn_r, Option.toList, List.cons_append, List.nil_append, if_true, if_false, true_and, and_true, or_false, false_or, true_or, or_true, not_false_eq_true, not_true_eq_false, and_false, false_and, zb_0, zb_1, q10]
theorem m134_2 (h : ShM σ b) {n : Nat} (hn : d 1 4 = nQ n) (h60 : n ≤ 60) {u g w x z : Int32} (c1 : inP u (nQ 0) (nQ 5)) (c2 : inP g (nQ 0) (nQ 2)) (c3 : inP w (nQ 0) (nQ 9)) (c4 : inP x (nQ 0) (nQ 99)) (c5 : ¬ inP z (nQ 0) (nQ 5000)) : DoM 134 [.ref b, .int u, .int g, .int w, .int x, .int z] (sB 7 σ b d) = some (.inl (some (.int (nQ 0))), sB 7 σ b (thF d 2)) := by
  have h0 := h.2.1
  obtain ⟨v, -, e⟩ := m134_m (z := z) h hn h60 c1 c2 c3 c4
  refine e.trans ?_
  have q20 : (nQ 2 = nQ 0) = False := by rw [nQ_eq (by decide) (by decide)]; simp
  simp (disch := omega) only [m106, if_z, eq_false c5, aOk, eq_self, tk_sB, pr_sB, tk_wr, pr_wr, nQ_nat, nQ_neg, nQ_add, nQ_mul, nQ_lt, leF, ltT, ltF, rd_sB, rd_sB0, wr_sB, wr_sB0, cn_l, cn_r, Option.toList, List.cons_append, List.nil_append, if_true, if_false, true_and, and_true, or_false, false_or, true_or, or_true, not_false_eq_true, not_true_eq_false, and_false, false_and, zb_0, zb_1, q10, h0, q20, m107 h, g134_62, g134_83, g134_100, g134_103]
theorem m134_3 (h : ShM σ b) {n : Nat} (hn : d 1 4 = nQ n) (h60 : n ≤ 60) {u g w x z : Int32} (c1 : inP u (nQ 0) (nQ 5)) (c2 : inP g (nQ 0) (nQ 2)) (c3 : inP w (nQ 0) (nQ 9)) (c4 : inP x (nQ 0) (nQ 99)) (c5 : inP z (nQ 0) (nQ 5000)) (c6 : n = 60 ∨ ∃ i, i < n ∧ d 1 (5 + 4 * i) = nQ 100 * w + x) : DoM 134 [.ref b, .int u, .int g, .int w, .int x, .int z] (sB 7 σ b d) = some (.inl (some (.int (nQ 0))), sB 7 σ b (thF d 3)) := by
  have h0 := h.2.1
  obtain ⟨v, hf, e⟩ := m134_m (z := z) h hn h60 c1 c2 c3 c4
  refine e.trans ?_
  have q30 : (nQ 3 = nQ 0) = False := by rw [nQ_eq (by decide) (by decide)]; simp
  have c7 : ¬ (v = -1 ∧ n < 60) := by
    rintro ⟨hv, h6⟩
    rcases c6 with c6 | ⟨i, hi, c6⟩
    · omega
    · exact fa_no hf hv h60 i hi c6
  simp (disch := omega) only [m106, if_z, eq_true c5, eq_false c7, aOk, eq_self, tk_sB, pr_sB, tk_wr, pr_wr, nQ_nat, nQ_neg, nQ_add, nQ_mul, nQ_lt, leF, ltT, ltF, rd_sB, rd_sB0, wr_sB, wr_sB0, cn_l, cn_r, Option.toList, List.cons_append, List.nil_append, if_true, if_false, true_and, and_true, or_false, false_or, true_or, or_true, not_false_eq_true, not_true_eq_false, and_false, false_and, zb_0, zb_1, q10, h0, q30, m107 h, g134_62, g134_83, g134_100, g134_103]
theorem m134_0 (h : ShM σ b) {n c : Nat} (hn : d 1 4 = nQ n) (h60 : n < 60) (hc : d 0 2 = nQ c) (hc6 : c ≤ 6) {u g w x z : Nat} (c1 : u < 6) (c2 : g < 3) (c3 : w < 10) (c4 : x < 100) (c5 : z ≤ 5000) (c6 : ∀ i, i < n → ¬ d 1 (5 + 4 * i) = nQ (100 * w + x)) :
    DoM 134 [.ref b, .int (nQ u), .int (nQ g), .int (nQ w), .int (nQ x), .int (nQ z)] (sB 7 σ b d) = some (.inl (some (.int (nQ (raN (kpF (d 1) c) n (riF (d 5) (nQ z) (nQ 1) (nQ z) (nQ 1)) u g)))), sB 7 σ b (rX (rX (kdF d c) 5 (riF (d 5) (nQ z) (nQ 1) (nQ z) (nQ 1))) 1 (crF (kpF (d 1) c) n (riF (d 5) (nQ z) (nQ 1) (nQ z) (nQ 1)) u g (nQ (100 * w + x)) (nQ z)))) := by
  have h0 := h.2.1
  have I : ∀ {a N : Nat}, a ≤ N → N ≤ 5000 → inP (nQ a) (nQ 0) (nQ N) := fun {a N} h1 h2 => ⟨by rw [nQ_lt (by omega) (by omega)]; omega, by rw [nQ_lt (by omega) (by omega)]; omega⟩
  obtain ⟨v, hf, e⟩ := m134_m (z := nQ z) h hn (by omega) (I (a := u) (N := 5) (by omega) (by omega)) (I (a := g) (N := 2) (by omega) (by omega)) (I (a := w) (N := 9) (by omega) (by omega)) (I (a := x) (N := 99) (by omega) (by omega))
  refine e.trans ?_
  have c7 : v = -1 ∧ n < 60 := by
    refine ⟨Classical.byContradiction fun hv => ?_, h60⟩
    obtain ⟨i, h1, -, h3⟩ := fa_yes hf hv
    rw [nQ_mul, nQ_add] at h3
    exact c6 i h1 h3
  have e5 := eq_true (I (a := z) (N := 5000) c5 (Nat.le_refl _))
  have ec : thF d 0 0 2 = nQ c := hc
  have e4 : kdF d c 1 4 = nQ n := by
    show kpF (d 1) c 4 = nQ n
    unfold kpF
    split
    · refine Eq.trans (if_neg (by omega)) ?_
      have : ∀ k, kpL (d 1) k 4 = d 1 4 := by
        intro k
        induction k with
        | zero => rfl
        | succ k ih =>
          show cpK (kpL (d 1) k) (k + 2) (k + 1) 357 4 = _
          exact (if_neg (by omega)).trans ih
      rw [this, hn]
    · exact (if_neg (by omega)).trans hn
  simp (disch := omega) only [m106, if_z, e5, eq_true c7.1, aOk, eq_self, tk_sB, pr_sB, tk_wr, pr_wr, nQ_nat, nQ_neg, nQ_add, nQ_mul, nQ_lt, leF, ltT, ltF, rd_sB, rd_sB0, wr_sB, wr_sB0, cn_l, cn_r, Option.toList, List.cons_append, List.nil_append, if_true, if_false, true_and, and_true, or_false, false_or, true_or, or_true, not_false_eq_true, not_true_eq_false, and_false, false_and, zb_0, zb_1, q10, h0, q10, m107 h, g134_62, g134_83, g134_100, g134_103]
  have e6 : DoM 133 [.ref b] (sB 7 σ b (thF d 0)) = some (.inl none, sB 7 σ b (kdF d c)) := m133 h ec hc6
  rw [e6]
  simp (disch := omega) only [aOk, eq_self, tk_sB, pr_sB, tk_wr, pr_wr, nQ_nat, nQ_neg, nQ_add, nQ_mul, nQ_lt, leF, ltT, ltF, rd_sB, rd_sB0, wr_sB, wr_sB0, cn_l, cn_r, Option.toList, List.cons_append, List.nil_append, if_true, if_false, true_and, and_true, or_false, false_or, true_or, or_true, not_false_eq_true, not_true_eq_false, and_false, false_and, zb_0, zb_1, q10, h0, g134_112]
  rw [m127 h e4 h60 c1 c2]
  simp (disch := omega) only [aOk, eq_self, tk_sB, pr_sB, tk_wr, pr_wr, nQ_nat, nQ_neg, nQ_add, nQ_mul, nQ_lt, leF, ltT, ltF, rd_sB, rd_sB0, wr_sB, wr_sB0, cn_l, cn_r, Option.toList, List.cons_append, List.nil_append, if_true, if_false, true_and, and_true, or_false, false_or, true_or, or_true, not_false_eq_true, not_true_eq_false, and_false, false_and, zb_0, zb_1, q10, g134_127]
  rfl
end Mg
