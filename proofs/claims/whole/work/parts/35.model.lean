/-! The model's small methods. -/
abbrev inP (v lo hi : Int32) : Prop := ¬ v < lo ∧ ¬ hi < v
theorem if_z {c : Prop} [Decidable c] : ((if c then nQ 1 else nQ 0) = nQ 0) = ¬ c := by
  by_cases h : c <;> simp only [h, if_true, if_false, q10, not_true_eq_false, not_false_eq_true]
theorem if_zo {c : Prop} [Decidable c] : ((if c then nQ 1 else nQ 0) = nQ 0 ∨ (if c then nQ 1 else nQ 0) = nQ 1) = True := by
  by_cases h : c <;> simp only [h, if_true, if_false, true_or, or_true]
theorem m106 {σ : Mem} (v lo hi : Int32) : DoM 106 [.int v, .int lo, .int hi] σ = some (.inl (some (.int (if inP v lo hi then nQ 1 else nQ 0))), σ) := by
  refine (g106_0).trans ?_
  simp only [aOk, eq_self, tk_sB, pr_sB, tk_wr, pr_wr, nQ_nat, nQ_neg, nQ_add, nQ_mul, nQ_lt, leF, ltT, ltF, rd_sB, rd_sB0, wr_sB, wr_sB0, cn_l, cn_r, Option.toList, List.cons_append, List.nil_append, if_true, if_false, true_and, and_true, or_false, false_or, true_or, or_true, not_false_eq_true, not_true_eq_false, and_false, false_and, zb_0, zb_1, q10, g106_14, g106_15]
  by_cases h1 : v < lo <;> by_cases h2 : hi < v <;> simp only [inP, h1, h2, aOk, eq_self, tk_sB, pr_sB, tk_wr, pr_wr, nQ_nat, nQ_neg, nQ_add, nQ_mul, nQ_lt, leF, ltT, ltF, rd_sB, rd_sB0, wr_sB, wr_sB0, cn_l, cn_r, Option.toList, List.cons_append, List.nil_append, if_true, if_false, true_and, and_true, or_false, false_or, true_or, or_true, not_false_eq_true, not_true_eq_false, and_false, false_and, zb_0, zb_1, q10]
theorem m108 {σ : Mem} (v : Int32) : DoM 108 [.int v] σ = some (.inl (some (.int (if inP v (nQ 0) (nQ 5) then nQ 1 else nQ 0))), σ) := by
  refine (g108_0).trans ?_
  simp only [aOk, eq_self, tk_sB, pr_sB, tk_wr, pr_wr, nQ_nat, nQ_neg, nQ_add, nQ_mul, nQ_lt, leF, ltT, ltF, rd_sB, rd_sB0, wr_sB, wr_sB0, cn_l, cn_r, Option.toList, List.cons_append, List.nil_append, if_true, if_false, true_and, and_true, or_false, false_or, true_or, or_true, not_false_eq_true, not_true_eq_false, and_false, false_and, zb_0, zb_1, q10, m106, g108_6, if_zo]
theorem m109 {σ : Mem} (v : Int32) : DoM 109 [.int v] σ = some (.inl (some (.int (if inP v (nQ 0) (nQ 2) then nQ 1 else nQ 0))), σ) := by
  refine (g109_0).trans ?_
  simp only [aOk, eq_self, tk_sB, pr_sB, tk_wr, pr_wr, nQ_nat, nQ_neg, nQ_add, nQ_mul, nQ_lt, leF, ltT, ltF, rd_sB, rd_sB0, wr_sB, wr_sB0, cn_l, cn_r, Option.toList, List.cons_append, List.nil_append, if_true, if_false, true_and, and_true, or_false, false_or, true_or, or_true, not_false_eq_true, not_true_eq_false, and_false, false_and, zb_0, zb_1, q10, m106, g109_6, if_zo]
theorem m110 {σ : Mem} (v w : Int32) : DoM 110 [.int v, .int w] σ = some (.inl (some (.int (if inP v (nQ 0) (nQ 9) ∧ inP w (nQ 0) (nQ 99) then nQ 1 else nQ 0))), σ) := by
  refine (g110_0).trans ?_
  simp only [aOk, eq_self, tk_sB, pr_sB, tk_wr, pr_wr, nQ_nat, nQ_neg, nQ_add, nQ_mul, nQ_lt, leF, ltT, ltF, rd_sB, rd_sB0, wr_sB, wr_sB0, cn_l, cn_r, Option.toList, List.cons_append, List.nil_append, if_true, if_false, true_and, and_true, or_false, false_or, true_or, or_true, not_false_eq_true, not_true_eq_false, and_false, false_and, zb_0, zb_1, q10, m106, g110_7, g110_17, g110_24, g110_25]
  by_cases h1 : v < nQ 0 <;> by_cases h2 : nQ 9 < v <;> by_cases h3 : w < nQ 0 <;> by_cases h4 : nQ 99 < w <;> simp only [inP, h1, h2, h3, h4, aOk, eq_self, tk_sB, pr_sB, tk_wr, pr_wr, nQ_nat, nQ_neg, nQ_add, nQ_mul, nQ_lt, leF, ltT, ltF, rd_sB, rd_sB0, wr_sB, wr_sB0, cn_l, cn_r, Option.toList, List.cons_append, List.nil_append, if_true, if_false, true_and, and_true, or_false, false_or, true_or, or_true, not_false_eq_true, not_true_eq_false, and_false, false_and, zb_0, zb_1, q10]
theorem m111 {σ : Mem} (v w : Int32) : DoM 111 [.int v, .int w] σ = some (.inl (some (.int (if inP v (nQ 0) (nQ 8) ∧ inP w (nQ 0) (nQ 1) then nQ 1 else nQ 0))), σ) := by
  refine (g111_0).trans ?_
  simp only [aOk, eq_self, tk_sB, pr_sB, tk_wr, pr_wr, nQ_nat, nQ_neg, nQ_add, nQ_mul, nQ_lt, leF, ltT, ltF, rd_sB, rd_sB0, wr_sB, wr_sB0, cn_l, cn_r, Option.toList, List.cons_append, List.nil_append, if_true, if_false, true_and, and_true, or_false, false_or, true_or, or_true, not_false_eq_true, not_true_eq_false, and_false, false_and, zb_0, zb_1, q10, m106, g111_7, g111_16, g111_23, g111_24]
  by_cases h1 : v < nQ 0 <;> by_cases h2 : nQ 8 < v <;> by_cases h3 : w < nQ 0 <;> by_cases h4 : nQ 1 < w <;> simp only [inP, h1, h2, h3, h4, aOk, eq_self, tk_sB, pr_sB, tk_wr, pr_wr, nQ_nat, nQ_neg, nQ_add, nQ_mul, nQ_lt, leF, ltT, ltF, rd_sB, rd_sB0, wr_sB, wr_sB0, cn_l, cn_r, Option.toList, List.cons_append, List.nil_append, if_true, if_false, true_and, and_true, or_false, false_or, true_or, or_true, not_false_eq_true, not_true_eq_false, and_false, false_and, zb_0, zb_1, q10]
def acN (e u g : Nat) : Nat := if e < 2 then u else 6 + g
theorem ac_lt {e u g : Nat} (hu : u < 6) (hg : g < 3) : acN e u g < 9 := by
  unfold acN
  split <;> omega
theorem m123 {σ : Mem} {e u g : Nat} (he : e < 4) : DoM 123 [.int (nQ e), .int (nQ u), .int (nQ g)] σ = some (.inl (some (.int (nQ (acN e u g)))), σ) := by
  refine (g123_0).trans ?_
  unfold acN
  simp (disch := omega) only [nQ_lt, g123_13]
  by_cases h1 : e < 2 <;> simp only [h1, aOk, eq_self, tk_sB, pr_sB, tk_wr, pr_wr, nQ_nat, nQ_neg, nQ_add, nQ_mul, nQ_lt, leF, ltT, ltF, rd_sB, rd_sB0, wr_sB, wr_sB0, cn_l, cn_r, Option.toList, List.cons_append, List.nil_append, if_true, if_false, true_and, and_true, or_false, false_or, true_or, or_true, not_false_eq_true, not_true_eq_false, and_false, false_and, zb_0, zb_1, q10]
section Md
variable {σ : Mem} {b : Nat} {d : Nat → Nat → Int32}
theorem m107 (h : ShM σ b) (v : Int32) : DoM 107 [.ref b, .int v] (sB 7 σ b d) = some (.inl (some (.int (if v = nQ 0 then nQ 1 else nQ 0))), sB 7 σ b (rX d 0 (up (d 0) 0 v))) := by
  have h0 := h.2.1
  refine (g107_0).trans ?_
  simp (disch := omega) only [aOk, eq_self, tk_sB, pr_sB, tk_wr, pr_wr, nQ_nat, nQ_neg, nQ_add, nQ_mul, nQ_lt, leF, ltT, ltF, rd_sB, rd_sB0, wr_sB, wr_sB0, cn_l, cn_r, Option.toList, List.cons_append, List.nil_append, if_true, if_false, true_and, and_true, or_false, false_or, true_or, or_true, not_false_eq_true, not_true_eq_false, and_false, false_and, zb_0, zb_1, q10, h0, g107_5, g107_14]
  by_cases h1 : v = nQ 0 <;> simp only [h1, aOk, eq_self, tk_sB, pr_sB, tk_wr, pr_wr, nQ_nat, nQ_neg, nQ_add, nQ_mul, nQ_lt, leF, ltT, ltF, rd_sB, rd_sB0, wr_sB, wr_sB0, cn_l, cn_r, Option.toList, List.cons_append, List.nil_append, if_true, if_false, true_and, and_true, or_false, false_or, true_or, or_true, not_false_eq_true, not_true_eq_false, and_false, false_and, zb_0, zb_1, q10]
theorem m113 (h : ShM σ b) {i w : Nat} (hi : i < 60) (hw : w < 4) (v : Int32) : DoM 113 [.ref b, .int (nQ i), .int (nQ w), .int v] (sB 7 σ b d) = some (.inl none, sB 7 σ b (rX d 1 (up (d 1) (5 + 4 * i + w) v))) := by
  obtain ⟨h8, h0, ⟨p1, p2, p3, p4, p5, p6⟩, t1, t2, t3, t4, t5, t6⟩ := h
  have hb : 8 ≤ b + 1 := by omega
  refine (g113_0).trans ?_
  simp (disch := omega) only [aOk, eq_self, tk_sB, pr_sB, tk_wr, pr_wr, nQ_nat, nQ_neg, nQ_add, nQ_mul, nQ_lt, leF, ltT, ltF, rd_sB, rd_sB0, wr_sB, wr_sB0, cn_l, cn_r, Option.toList, List.cons_append, List.nil_append, if_true, if_false, true_and, and_true, or_false, false_or, true_or, or_true, not_false_eq_true, not_true_eq_false, and_false, false_and, zb_0, zb_1, q10, h0, p1, t1, hb, g113_13]
theorem m122 (h : ShM σ b) (u : Int32) : DoM 122 [.ref b, .int u] (sB 7 σ b d) = some (.inl (some (.int (if (d 1 3 >>> (u &&& nQ 31)) &&& nQ 1 = nQ 1 then nQ 1 else nQ 0))), sB 7 σ b d) := by
  obtain ⟨h8, h0, ⟨p1, p2, p3, p4, p5, p6⟩, t1, t2, t3, t4, t5, t6⟩ := h
  refine (g122_0).trans ?_
  simp (disch := omega) only [aOk, eq_self, tk_sB, pr_sB, tk_wr, pr_wr, nQ_nat, nQ_neg, nQ_add, nQ_mul, nQ_lt, leF, ltT, ltF, rd_sB, rd_sB0, wr_sB, wr_sB0, cn_l, cn_r, Option.toList, List.cons_append, List.nil_append, if_true, if_false, true_and, and_true, or_false, false_or, true_or, or_true, not_false_eq_true, not_true_eq_false, and_false, false_and, zb_0, zb_1, q10, h0, p1, t1, g122_19]
  by_cases h1 : (d 1 3 >>> (u &&& nQ 31)) &&& nQ 1 = nQ 1 <;> simp only [h1, aOk, eq_self, tk_sB, pr_sB, tk_wr, pr_wr, nQ_nat, nQ_neg, nQ_add, nQ_mul, nQ_lt, leF, ltT, ltF, rd_sB, rd_sB0, wr_sB, wr_sB0, cn_l, cn_r, Option.toList, List.cons_append, List.nil_append, if_true, if_false, true_and, and_true, or_false, false_or, true_or, or_true, not_false_eq_true, not_true_eq_false, and_false, false_and, zb_0, zb_1, q10]
abbrev ovF (f : Nat → Int32) (st dy : Int32) (r : Nat) : Prop := ¬ st = -1 ∧ ¬ dy - st < f (1 + r)
theorem m120 (h : ShM σ b) (st dy : Int32) {r : Nat} (hr : r < 2) : DoM 120 [.ref b, .int st, .int dy, .int (nQ r)] (sB 7 σ b d) = some (.inl (some (.int (if ovF (d 1) st dy r then nQ 1 else nQ 0))), sB 7 σ b d) := by
  obtain ⟨h8, h0, ⟨p1, p2, p3, p4, p5, p6⟩, t1, t2, t3, t4, t5, t6⟩ := h
  refine (g120_0).trans ?_
  simp (disch := omega) only [aOk, eq_self, tk_sB, pr_sB, tk_wr, pr_wr, nQ_nat, nQ_neg, nQ_add, nQ_mul, nQ_lt, leF, ltT, ltF, rd_sB, rd_sB0, wr_sB, wr_sB0, cn_l, cn_r, Option.toList, List.cons_append, List.nil_append, if_true, if_false, true_and, and_true, or_false, false_or, true_or, or_true, not_false_eq_true, not_true_eq_false, and_false, false_and, zb_0, zb_1, q10, h0, p1, t1, g120_23, g120_24]
  by_cases h1 : st = -1 <;> by_cases h2 : dy - st < d 1 (1 + r) <;> simp only [ovF, h1, h2, aOk, eq_self, tk_sB, pr_sB, tk_wr, pr_wr, nQ_nat, nQ_neg, nQ_add, nQ_mul, nQ_lt, leF, ltT, ltF, rd_sB, rd_sB0, wr_sB, wr_sB0, cn_l, cn_r, Option.toList, List.cons_append, List.nil_append, if_true, if_false, true_and, and_true, or_false, false_or, true_or, or_true, not_false_eq_true, not_true_eq_false, and_false, false_and, zb_0, zb_1, q10]
def caN (f : Nat → Int32) (k : Nat) (us by' : Int32) (ov : Prop) [Decidable ov] : Nat := if by' = nQ 0 then 0 else if ¬ f (263 + k) = nQ 0 ∧ f (263 + k) < us + by' then 1 else if ov ∧ f (245 + k) < us + by' then 2 else 0
theorem m121 (h : ShM σ b) {k : Nat} (hk : k < 18) (us by' : Int32) (ov : Prop) [Decidable ov] : DoM 121 [.ref b, .int (nQ k), .int us, .int by', .int (if ov then nQ 1 else nQ 0)] (sB 7 σ b d) = some (.inl (some (.int (nQ (caN (d 1) k us by' ov)))), sB 7 σ b d) := by
  obtain ⟨h8, h0, ⟨p1, p2, p3, p4, p5, p6⟩, t1, t2, t3, t4, t5, t6⟩ := h
  refine (g121_0).trans ?_
  simp (disch := omega) only [aOk, eq_self, tk_sB, pr_sB, tk_wr, pr_wr, nQ_nat, nQ_neg, nQ_add, nQ_mul, nQ_lt, leF, ltT, ltF, rd_sB, rd_sB0, wr_sB, wr_sB0, cn_l, cn_r, Option.toList, List.cons_append, List.nil_append, if_true, if_false, true_and, and_true, or_false, false_or, true_or, or_true, not_false_eq_true, not_true_eq_false, and_false, false_and, zb_0, zb_1, q10, h0, p1, t1, g121_39, g121_64, g121_65, if_z]
  unfold caN
  by_cases h1 : by' = nQ 0 <;> by_cases h2 : d 1 (263 + k) = nQ 0 <;> by_cases h3 : d 1 (263 + k) < us + by' <;> by_cases h4 : ov <;> by_cases h5 : d 1 (245 + k) < us + by' <;> simp only [h1, h2, h3, h4, h5, aOk, eq_self, tk_sB, pr_sB, tk_wr, pr_wr, nQ_nat, nQ_neg, nQ_add, nQ_mul, nQ_lt, leF, ltT, ltF, rd_sB, rd_sB0, wr_sB, wr_sB0, cn_l, cn_r, Option.toList, List.cons_append, List.nil_append, if_true, if_false, true_and, and_true, or_false, false_or, true_or, or_true, not_false_eq_true, not_true_eq_false, and_false, false_and, zb_0, zb_1, q10]
theorem ca_le (f : Nat → Int32) (k : Nat) (us by' : Int32) (ov : Prop) [Decidable ov] : caN f k us by' ov ≤ 2 := by
  unfold caN
  repeat' split
  all_goals omega
/-- the place of a file, or -1 -/
def FaF (f : Nat → Int32) (n : Nat) (key v : Int32) : Prop := (∃ i, i < n ∧ v = nQ i ∧ f (5 + 4 * i) = key) ∨ (v = -1 ∧ ∀ i, i < n → ¬ f (5 + 4 * i) = key)
theorem m114 (h : ShM σ b) {n : Nat} (hn : d 1 4 = nQ n) (h60 : n ≤ 60) (u w : Int32) : ∃ v, DoM 114 [.ref b, .int u, .int w] (sB 7 σ b d) = some (.inl (some (.int v)), sB 7 σ b d) ∧ FaF (d 1) n (nQ 100 * u + w) v := by
  obtain ⟨h8, h0, ⟨p1, p2, p3, p4, p5, p6⟩, t1, t2, t3, t4, t5, t6⟩ := id h
  have L : ∀ (m i : Nat), i + m = n → (∀ j, j < i → ¬ d 1 (5 + 4 * j) = nQ 100 * u + w) → ∃ v, RuM 114 (2, [some (.ref b), some (.int u), some (.int w), some (.int (nQ i))], [], 0, 0) (sB 7 σ b d) = some (.inl (some (.int v)), sB 7 σ b d) ∧ FaF (d 1) n (nQ 100 * u + w) v := by
    intro m
    induction m with
    | zero =>
      intro i e hj
      obtain rfl : i = n := e
      refine ⟨-1, ?_, Or.inr ⟨rfl, hj⟩⟩
      rw [g114_2]
      simp (disch := omega) only [aOk, eq_self, tk_sB, pr_sB, tk_wr, pr_wr, nQ_nat, nQ_neg, nQ_add, nQ_mul, nQ_lt, leF, ltT, ltF, rd_sB, rd_sB0, wr_sB, wr_sB0, cn_l, cn_r, Option.toList, List.cons_append, List.nil_append, if_true, if_false, true_and, and_true, or_false, false_or, true_or, or_true, not_false_eq_true, not_true_eq_false, and_false, false_and, zb_0, zb_1, q10, h0, p1, t1, hn]
    | succ m ih =>
      intro i e hj
      rw [g114_2]
      simp (disch := omega) only [aOk, eq_self, tk_sB, pr_sB, tk_wr, pr_wr, nQ_nat, nQ_neg, nQ_add, nQ_mul, nQ_lt, leF, ltT, ltF, rd_sB, rd_sB0, wr_sB, wr_sB0, cn_l, cn_r, Option.toList, List.cons_append, List.nil_append, if_true, if_false, true_and, and_true, or_false, false_or, true_or, or_true, not_false_eq_true, not_true_eq_false, and_false, false_and, zb_0, zb_1, q10, h0, p1, t1, hn, m112 h, g114_18]
      by_cases hc : d 1 (5 + 4 * i) = nQ 100 * u + w
      · refine ⟨nQ i, ?_, Or.inl ⟨i, by omega, rfl, hc⟩⟩
        simp only [Nat.add_zero, hc, if_true]
      · simp only [Nat.add_zero, hc, if_false]
        refine ih (i + 1) (by omega) (fun j hj' => ?_)
        by_cases hji : j = i
        · rw [hji]; exact hc
        · exact hj j (by omega)
  obtain ⟨v, h1, h2⟩ := L n 0 (Nat.zero_add n) (fun j hj => absurd hj (Nat.not_lt_zero j))
  exact ⟨v, (g114_0).trans h1, h2⟩
/-- the events, moved down by one from the end to a place -/
def shF (f : Nat → Int32) (k : Nat) : Nat → Int32 := fun i => if 309 + k < i ∧ i < 357 then f (i - 4) else f i
theorem sh_0 (f : Nat → Int32) : shF f 47 = f := by
  funext i
  exact if_neg (by omega)
theorem sh_s (f : Nat → Int32) {k : Nat} (h : 4 ≤ k) (h2 : k ≤ 47) : up (shF f k) (309 + k) (shF f k (309 + k - 4)) = shF f (k - 1) := by
  funext i
  by_cases hi : i = 309 + k
  · subst hi
    rw [up_s]
    show (if _ then _ else _) = if _ then _ else _
    rw [if_neg (by omega), if_pos (by omega)]
  · rw [up_n hi]
    show (if _ then _ else _) = if _ then _ else _
    by_cases h3 : 309 + k < i ∧ i < 357
    · rw [if_pos h3, if_pos (by omega)]
    · rw [if_neg h3, if_neg (by omega)]
def lgF (f : Nat → Int32) (k a r : Int32) : Nat → Int32 := fun i => if i = 308 then f 308 + (if f 308 < nQ 12 then nQ 1 else nQ 0) else if i = 309 then k else if i = 310 then a else if i = 311 then r else if i = 312 then f 0 else if 312 < i ∧ i < 357 then f (i - 4) else f i
theorem lg_of (f : Nat → Int32) (k a r : Int32) : up (up (up (up (up (shF f 3) 309 k) 310 a) 311 r) 312 (f 0)) 308 (f 308 + (if f 308 < nQ 12 then nQ 1 else nQ 0)) = lgF f k a r := by
  funext i
  unfold up lgF shF
  by_cases h1 : i = 308
  · simp only [h1, if_true]
  by_cases h2 : i = 309
  · simp only [h2, if_true, Nat.reduceEqDiff, if_false]
  by_cases h3 : i = 310
  · simp only [h3, if_true, Nat.reduceEqDiff, if_false]
  by_cases h4 : i = 311
  · simp only [h4, if_true, Nat.reduceEqDiff, if_false]
  by_cases h5 : i = 312
  · simp only [h5, if_true, Nat.reduceEqDiff, if_false]
  simp only [h1, h2, h3, h4, h5, if_false]
theorem m117 (h : ShM σ b) (k a r : Int32) : DoM 117 [.ref b, .int k, .int a, .int r] (sB 7 σ b d) = some (.inl none, sB 7 σ b (rX d 1 (lgF (d 1) k a r))) := by
  obtain ⟨h8, h0, ⟨p1, p2, p3, p4, p5, p6⟩, t1, t2, t3, t4, t5, t6⟩ := id h
  have hb : 8 ≤ b + 1 := by omega
  have L : ∀ (m : Nat), m ≤ 44 → RuM 117 (4, [some (.ref b), some (.int k), some (.int a), some (.int r), some (.int (nQ (m + 3)))], [], 0, 0) (sB 7 σ b (rX d 1 (shF (d 1) (m + 3)))) = some (.inl none, sB 7 σ b (rX d 1 (lgF (d 1) k a r))) := by
    intro m
    induction m with
    | zero =>
      intro _
      rw [g117_4]
      have e0 : shF (d 1) 3 0 = d 1 0 := rfl
      have e1 : shF (d 1) 3 308 = d 1 308 := rfl
      simp (disch := omega) only [aOk, eq_self, tk_sB, pr_sB, tk_wr, pr_wr, nQ_nat, nQ_neg, nQ_add, nQ_mul, nQ_lt, leF, ltT, ltF, rd_sB, rd_sB0, wr_sB, wr_sB0, cn_l, cn_r, Option.toList, List.cons_append, List.nil_append, if_true, if_false, true_and, and_true, or_false, false_or, true_or, or_true, not_false_eq_true, not_true_eq_false, and_false, false_and, zb_0, zb_1, q10, h0, p1, t1, hb, Nat.zero_add, rX_s, rX_r, up_n, e0, e1, g117_34, g117_49, g117_58, g117_67, g117_81, g117_108, g117_110]
      have e := lg_of (d 1) k a r
      by_cases hc : d 1 308 < nQ 12 <;> simp only [hc, if_true, if_false] at e ⊢ <;> rw [e]
    | succ m ih =>
      intro hm
      rw [g117_4]
      have e := sh_s (d 1) (k := m + 1 + 3) (by omega) (by omega)
      have e2 : nQ (m + 1 + 3) + (-1) = nQ (m + 3) := nQ_pred (m + 3)
      simp (disch := omega) only [aOk, eq_self, tk_sB, pr_sB, tk_wr, pr_wr, nQ_nat, nQ_neg, nQ_add, nQ_mul, nQ_lt, leF, ltT, ltF, rd_sB, rd_sB0, wr_sB, wr_sB0, cn_l, cn_r, Option.toList, List.cons_append, List.nil_append, if_true, if_false, true_and, and_true, or_false, false_or, true_or, or_true, not_false_eq_true, not_true_eq_false, and_false, false_and, zb_0, zb_1, q10, nQ_sub, h0, p1, t1, hb, rX_s, rX_r, e, e2, g117_34]
      exact ih (by omega)
  refine (g117_0).trans ?_
  have := L 44 (Nat.le_refl _)
  rw [sh_0, rX_i] at this
  exact this
def rvF (f : Nat → Int32) (n a r : Nat) : Nat → Int32 :=
  if (¬ f (245 + (2 * a + r)) = nQ 0 ∧ f (245 + (2 * a + r)) < usF f (nQ a) r n) ∧ f (281 + (2 * a + r)) = -1 then lgF (up f (281 + (2 * a + r)) (f 0)) (nQ 1) (nQ a) (nQ r)
  else if ¬ (¬ f (245 + (2 * a + r)) = nQ 0 ∧ f (245 + (2 * a + r)) < usF f (nQ a) r n) ∧ ¬ f (281 + (2 * a + r)) = -1 then lgF (up f (281 + (2 * a + r)) (-1)) (nQ 2) (nQ a) (nQ r)
  else f
theorem m118 (h : ShM σ b) {n : Nat} (hn : d 1 4 = nQ n) (h60 : n ≤ 60) {a r : Nat} (ha : a < 9) (hr : r < 2) : DoM 118 [.ref b, .int (nQ a), .int (nQ r)] (sB 7 σ b d) = some (.inl none, sB 7 σ b (rX d 1 (rvF (d 1) n a r))) := by
  obtain ⟨h8, h0, ⟨p1, p2, p3, p4, p5, p6⟩, t1, t2, t3, t4, t5, t6⟩ := id h
  have hb : 8 ≤ b + 1 := by omega
  refine (g118_0).trans ?_
  unfold rvF
  by_cases c1 : d 1 (245 + (2 * a + r)) = nQ 0 <;> by_cases c3 : d 1 (281 + (2 * a + r)) = -1
  · simp (disch := omega) only [aOk, eq_self, tk_sB, pr_sB, tk_wr, pr_wr, nQ_nat, nQ_neg, nQ_add, nQ_mul, nQ_lt, leF, ltT, ltF, rd_sB, rd_sB0, wr_sB, wr_sB0, cn_l, cn_r, Option.toList, List.cons_append, List.nil_append, if_true, if_false, true_and, and_true, or_false, false_or, true_or, or_true, not_false_eq_true, not_true_eq_false, and_false, false_and, zb_0, zb_1, q10, h0, p1, t1, hb, c1, c3, m116 h hn h60, m117 h, rX_s, rX_r, rX_i, g118_25, g118_42, g118_43, g118_80, g118_87, g118_90, g118_120, g118_127]
  · simp (disch := omega) only [aOk, eq_self, tk_sB, pr_sB, tk_wr, pr_wr, nQ_nat, nQ_neg, nQ_add, nQ_mul, nQ_lt, leF, ltT, ltF, rd_sB, rd_sB0, wr_sB, wr_sB0, cn_l, cn_r, Option.toList, List.cons_append, List.nil_append, if_true, if_false, true_and, and_true, or_false, false_or, true_or, or_true, not_false_eq_true, not_true_eq_false, and_false, false_and, zb_0, zb_1, q10, h0, p1, t1, hb, c1, c3, m116 h hn h60, m117 h, rX_s, rX_r, rX_i, g118_25, g118_42, g118_43, g118_80, g118_87, g118_90, g118_120, g118_127]
  · by_cases c2 : d 1 (245 + (2 * a + r)) < usF (d 1) (nQ a) r n <;> simp (disch := omega) only [aOk, eq_self, tk_sB, pr_sB, tk_wr, pr_wr, nQ_nat, nQ_neg, nQ_add, nQ_mul, nQ_lt, leF, ltT, ltF, rd_sB, rd_sB0, wr_sB, wr_sB0, cn_l, cn_r, Option.toList, List.cons_append, List.nil_append, if_true, if_false, true_and, and_true, or_false, false_or, true_or, or_true, not_false_eq_true, not_true_eq_false, and_false, false_and, zb_0, zb_1, q10, h0, p1, t1, hb, c1, c2, c3, q10, m116 h hn h60, m117 h, rX_s, rX_r, rX_i, g118_25, g118_42, g118_43, g118_80, g118_87, g118_90, g118_120, g118_127]
  · by_cases c2 : d 1 (245 + (2 * a + r)) < usF (d 1) (nQ a) r n <;> simp (disch := omega) only [aOk, eq_self, tk_sB, pr_sB, tk_wr, pr_wr, nQ_nat, nQ_neg, nQ_add, nQ_mul, nQ_lt, leF, ltT, ltF, rd_sB, rd_sB0, wr_sB, wr_sB0, cn_l, cn_r, Option.toList, List.cons_append, List.nil_append, if_true, if_false, true_and, and_true, or_false, false_or, true_or, or_true, not_false_eq_true, not_true_eq_false, and_false, false_and, zb_0, zb_1, q10, h0, p1, t1, hb, c1, c2, c3, q10, m116 h hn h60, m117 h, rX_s, rX_r, rX_i, g118_25, g118_42, g118_43, g118_80, g118_87, g118_90, g118_120, g118_127]
theorem rv_4 (f : Nat → Int32) (n a r : Nat) (hk : 2 * a + r < 18) : rvF f n a r 4 = f 4 := by
  unfold rvF
  repeat' split
  · exact up_n (by omega)
  · exact up_n (by omega)
  · rfl
def rvA (f : Nat → Int32) (n : Nat) : Nat → Nat → Int32
  | 0 => f
  | k + 1 => rvF (rvA f n k) n (k / 2) (k - k / 2 * 2)
theorem rvA_s (f : Nat → Int32) (n k : Nat) : rvA f n (k + 1) = rvF (rvA f n k) n (k / 2) (k - k / 2 * 2) := rfl
theorem rvA_4 (f : Nat → Int32) (n : Nat) : ∀ k, k ≤ 18 → rvA f n k 4 = f 4
  | 0, _ => rfl
  | k + 1, h => by rw [rvA_s, rv_4 _ _ _ _ (by omega)]; exact rvA_4 f n k (by omega)
theorem m119 (h : ShM σ b) {n : Nat} (hn : d 1 4 = nQ n) (h60 : n ≤ 60) : DoM 119 [.ref b] (sB 7 σ b d) = some (.inl none, sB 7 σ b (rX d 1 (rvA (d 1) n 18))) := by
  have h0 := h.2.1
  have L : ∀ (m i : Nat), i + m = 18 → RuM 119 (2, [some (.ref b), some (.int (nQ i))], [], 0, 0) (sB 7 σ b (rX d 1 (rvA (d 1) n i))) = some (.inl none, sB 7 σ b (rX d 1 (rvA (d 1) n 18))) := by
    intro m
    induction m with
    | zero =>
      intro i e
      obtain rfl : i = 18 := e
      rw [g119_2]
      simp (disch := omega) only [aOk, eq_self, tk_sB, pr_sB, tk_wr, pr_wr, nQ_nat, nQ_neg, nQ_add, nQ_mul, nQ_lt, leF, ltT, ltF, rd_sB, rd_sB0, wr_sB, wr_sB0, cn_l, cn_r, Option.toList, List.cons_append, List.nil_append, if_true, if_false, true_and, and_true, or_false, false_or, true_or, or_true, not_false_eq_true, not_true_eq_false, and_false, false_and, zb_0, zb_1, q10]
    | succ m ih =>
      intro i e
      have e4 : rX d 1 (rvA (d 1) n i) 1 4 = nQ n := by rw [rX_s, rvA_4 _ _ _ (by omega), hn]
      have ih' := ih (i + 1) (by omega)
      rw [rvA_s] at ih'
      rw [g119_2]
      simp (disch := omega) only [aOk, eq_self, tk_sB, pr_sB, tk_wr, pr_wr, nQ_nat, nQ_neg, nQ_add, nQ_mul, nQ_lt, leF, ltT, ltF, rd_sB, rd_sB0, wr_sB, wr_sB0, cn_l, cn_r, Option.toList, List.cons_append, List.nil_append, if_true, if_false, true_and, and_true, or_false, false_or, true_or, or_true, not_false_eq_true, not_true_eq_false, and_false, false_and, zb_0, zb_1, q10, h0, nQ_div, nQ_sub]
      rw [m118 h e4 h60 (by omega) (by omega)]
      simp (disch := omega) only [aOk, eq_self, tk_sB, pr_sB, tk_wr, pr_wr, nQ_nat, nQ_neg, nQ_add, nQ_mul, nQ_lt, leF, ltT, ltF, rd_sB, rd_sB0, wr_sB, wr_sB0, cn_l, cn_r, Option.toList, List.cons_append, List.nil_append, if_true, if_false, true_and, and_true, or_false, false_or, true_or, or_true, not_false_eq_true, not_true_eq_false, and_false, false_and, zb_0, zb_1, q10, rX_s, rX_r, g119_18]
      exact ih'
  have := L 18 0 rfl
  rw [show rvA (d 1) n 0 = d 1 from rfl, rX_i] at this
  exact (g119_0).trans this
abbrev frF (f : Nat → Int32) (u : Nat) : Prop := (f 3 >>> (nQ u &&& nQ 31)) &&& nQ 1 = nQ 1
def ceN (f : Nat → Int32) (n : Nat) (ri : Nat → Int32) (u g e : Nat) : Nat := caN f (2 * acN e u g + (e - e / 2 * 2)) (usF f (nQ (acN e u g)) (e - e / 2 * 2) n) (ri e) (ovF f (f (281 + (2 * acN e u g + (e - e / 2 * 2)))) (f 0) (e - e / 2 * 2))
def reN (f : Nat → Int32) (n : Nat) (ri : Nat → Int32) (u g : Nat) : Nat → Nat → Nat
  | 0, _ => 0
  | m + 1, e => if 0 < ceN f n ri u g e then 2 * e + ceN f n ri u g e else reN f n ri u g m (e + 1)
def raN (f : Nat → Int32) (n : Nat) (ri : Nat → Int32) (u g : Nat) : Nat := if frF f u then 0 else reN f n ri u g 4 0
theorem m124 (h : ShM σ b) {n : Nat} (hn : d 1 4 = nQ n) (h60 : n ≤ 60) {u g : Nat} (hu : u < 6) (hg : g < 3) : DoM 124 [.ref b, .int (nQ u), .int (nQ g)] (sB 7 σ b d) = some (.inl (some (.int (nQ (raN (d 1) n (d 5) u g)))), sB 7 σ b d) := by
  obtain ⟨h8, h0, ⟨p1, p2, p3, p4, p5, p6⟩, t1, t2, t3, t4, t5, t6⟩ := id h
  refine (g124_0).trans ?_
  unfold raN
  by_cases hf : frF (d 1) u
  · rw [g124_2]
    simp (disch := omega) only [aOk, eq_self, tk_sB, pr_sB, tk_wr, pr_wr, nQ_nat, nQ_neg, nQ_add, nQ_mul, nQ_lt, leF, ltT, ltF, rd_sB, rd_sB0, wr_sB, wr_sB0, cn_l, cn_r, Option.toList, List.cons_append, List.nil_append, if_true, if_false, true_and, and_true, or_false, false_or, true_or, or_true, not_false_eq_true, not_true_eq_false, and_false, false_and, zb_0, zb_1, q10, h0, m122 h, if_z, hf, g124_12, g124_21, g124_45, g124_75, g124_78, g124_98]
    rw [if_pos hf]
  · have L : ∀ (m e : Nat) (o4 o5 o6 : Option Value), e + m = 4 → RuM 124 (2, [some (.ref b), some (.int (nQ u)), some (.int (nQ g)), some (.int (nQ e)), o4, o5, o6], [], 0, 0) (sB 7 σ b d) = some (.inl (some (.int (nQ (reN (d 1) n (d 5) u g m e)))), sB 7 σ b d) := by
      intro m
      induction m with
      | zero =>
        intro e o4 o5 o6 hm
        obtain rfl : e = 4 := hm
        rw [g124_2]
        simp (disch := omega) only [aOk, eq_self, tk_sB, pr_sB, tk_wr, pr_wr, nQ_nat, nQ_neg, nQ_add, nQ_mul, nQ_lt, leF, ltT, ltF, rd_sB, rd_sB0, wr_sB, wr_sB0, cn_l, cn_r, Option.toList, List.cons_append, List.nil_append, if_true, if_false, true_and, and_true, or_false, false_or, true_or, or_true, not_false_eq_true, not_true_eq_false, and_false, false_and, zb_0, zb_1, q10, g124_98, reN]
      | succ m ih =>
        intro e o4 o5 o6 hm
        have ha := ac_lt (e := e) hu hg
        have hc := ca_le (d 1) (2 * acN e u g + (e - e / 2 * 2)) (usF (d 1) (nQ (acN e u g)) (e - e / 2 * 2) n) (d 5 e) (ovF (d 1) (d 1 (281 + (2 * acN e u g + (e - e / 2 * 2)))) (d 1 0) (e - e / 2 * 2))
        rw [g124_2]
        simp (disch := omega) only [aOk, eq_self, tk_sB, pr_sB, tk_wr, pr_wr, nQ_nat, nQ_neg, nQ_add, nQ_mul, nQ_lt, leF, ltT, ltF, rd_sB, rd_sB0, wr_sB, wr_sB0, cn_l, cn_r, Option.toList, List.cons_append, List.nil_append, if_true, if_false, true_and, and_true, or_false, false_or, true_or, or_true, not_false_eq_true, not_true_eq_false, and_false, false_and, zb_0, zb_1, q10, h0, p1, p5, t1, t5, m122 h, if_z, hf, m123, nQ_div, nQ_sub, m116 h hn h60, m120 h, m121 h, reN, g124_12, g124_21, g124_45, g124_75, g124_78, g124_98]
        have ih' := fun a b c => ih (e + 1) a b c (by omega)
        by_cases hq : 0 < ceN (d 1) n (d 5) u g e
        · rw [if_pos hq]
          exact if_pos hq
        · rw [if_neg hq]
          exact (if_neg hq).trans (ih' _ _ _)
    rw [if_neg hf]
    exact L 4 0 none none none rfl
end Md
