/-! The model's copies, deletes, moves. -/
def cpK (f : Nat → Int32) (p q k : Nat) : Nat → Int32 := fun i => if 357 * q ≤ i ∧ i < 357 * q + k then f (357 * p + (i - 357 * q)) else f i
theorem cpK_0 (f : Nat → Int32) (p q : Nat) : cpK f p q 0 = f := by
  funext i
  exact if_neg (by omega)
theorem cpK_s (f : Nat → Int32) {p q k : Nat} (hpq : ¬ p = q) (hk : k < 357) : up (cpK f p q k) (357 * q + k) (cpK f p q k (357 * p + k)) = cpK f p q (k + 1) := by
  have e : cpK f p q k (357 * p + k) = f (357 * p + k) := if_neg (by omega)
  funext i
  rw [e]
  by_cases hi : i = 357 * q + k
  · subst hi
    rw [up_s]
    show _ = if _ then _ else _
    rw [if_pos (by omega), Nat.add_sub_cancel_left]
  · rw [up_n hi]
    show (if _ then _ else _) = if _ then _ else _
    by_cases h3 : 357 * q ≤ i ∧ i < 357 * q + k
    · rw [if_pos h3, if_pos (by omega)]
    · rw [if_neg h3, if_neg (by omega)]
abbrev cpF (f : Nat → Int32) (p q : Nat) : Nat → Int32 := cpK f p q 357
def kpL (f : Nat → Int32) : Nat → Nat → Int32
  | 0 => f
  | k + 1 => cpF (kpL f k) (k + 2) (k + 1)
theorem kpL_s (f : Nat → Int32) (k : Nat) : kpL f (k + 1) = cpF (kpL f k) (k + 2) (k + 1) := rfl
def kpF (f : Nat → Int32) (c : Nat) : Nat → Int32 := if c = 6 then cpF (kpL f 5) 0 6 else cpF f 0 (c + 1)
theorem rX_3 (d : Nat → Nat → Int32) (u v : Nat) (f g e : Nat → Int32) : rX (rX (rX d u f) v g) u e = rX (rX d v g) u e := by
  funext a
  by_cases h : a = u <;> by_cases h2 : a = v <;> simp only [rX, h, h2, if_true, if_false]
section Mf
variable {σ : Mem} {b : Nat} {d : Nat → Nat → Int32}
theorem m132 (h : ShM σ b) {p q : Nat} (hp : p < 9) (hq : q < 9) (hpq : ¬ p = q) : DoM 132 [.ref b, .int (nQ p), .int (nQ q)] (sB 7 σ b d) = some (.inl none, sB 7 σ b (rX d 1 (cpF (d 1) p q))) := by
  obtain ⟨h8, h0, ⟨p1, p2, p3, p4, p5, p6⟩, t1, t2, t3, t4, t5, t6⟩ := id h
  have hb : 8 ≤ b + 1 := by omega
  have L : ∀ (m k : Nat), k + m = 357 → RuM 132 (2, [some (.ref b), some (.int (nQ p)), some (.int (nQ q)), some (.int (nQ k))], [], 0, 0) (sB 7 σ b (rX d 1 (cpK (d 1) p q k))) = some (.inl none, sB 7 σ b (rX d 1 (cpF (d 1) p q))) := by
    intro m
    induction m with
    | zero =>
      intro k e
      obtain rfl : k = 357 := e
      rw [g132_2, if_neg (by rw [nQ_lt (by decide) (by decide)]; decide)]
    | succ m ih =>
      intro k e
      have e1 := cpK_s (d 1) hpq (k := k) (by omega)
      rw [g132_2]
      simp (disch := omega) only [aOk, eq_self, tk_sB, pr_sB, tk_wr, pr_wr, nQ_nat, nQ_neg, nQ_add, nQ_mul, nQ_lt, leF, ltT, ltF, rd_sB, rd_sB0, wr_sB, wr_sB0, cn_l, cn_r, Option.toList, List.cons_append, List.nil_append, if_true, if_false, true_and, and_true, or_false, false_or, true_or, or_true, not_false_eq_true, not_true_eq_false, and_false, false_and, zb_0, zb_1, q10, h0, p1, t1, hb, rX_s, rX_r, e1, g132_33]
      exact ih (k + 1) (by omega)
  have := L 357 0 rfl
  rw [cpK_0, rX_i] at this
  exact (g132_0).trans this
theorem m133 (h : ShM σ b) {c : Nat} (hc : d 0 2 = nQ c) (h6 : c ≤ 6) : DoM 133 [.ref b] (sB 7 σ b d) = some (.inl none, sB 7 σ b (rX (rX d 0 (up (d 0) 2 (nQ (if c = 6 then 6 else c + 1)))) 1 (kpF (d 1) c))) := by
  obtain ⟨h8, h0, ⟨p1, p2, p3, p4, p5, p6⟩, t1, t2, t3, t4, t5, t6⟩ := id h
  refine (g133_0).trans ?_
  unfold kpF
  by_cases hq : c = 6
  · subst hq
    have L : ∀ (m k : Nat), k + m = 5 → RuM 133 (2, [some (.ref b), some (.int (nQ (k + 1)))], [], 0, 0) (sB 7 σ b (rX d 1 (kpL (d 1) k))) = RuM 133 (31, [some (.ref b), some (.int (nQ 6))], [], 0, 0) (sB 7 σ b (rX d 1 (kpL (d 1) 5))) := by
      intro m
      induction m with
      | zero =>
        intro k e
        obtain rfl : k = 5 := e
        rw [g133_2, if_neg (by rw [nQ_lt (by decide) (by decide)]; decide)]
      | succ m ih =>
        intro k e
        have ih' := ih (k + 1) (by omega)
        rw [kpL_s] at ih'
        rw [g133_2]
        simp (disch := omega) only [aOk, eq_self, tk_sB, pr_sB, tk_wr, pr_wr, nQ_nat, nQ_neg, nQ_add, nQ_mul, nQ_lt, leF, ltT, ltF, rd_sB, rd_sB0, wr_sB, wr_sB0, cn_l, cn_r, Option.toList, List.cons_append, List.nil_append, if_true, if_false, true_and, and_true, or_false, false_or, true_or, or_true, not_false_eq_true, not_true_eq_false, and_false, false_and, zb_0, zb_1, q10, h0, rX_n, hc, Nat.add_assoc, Nat.reduceAdd]
        rw [m132 h (by omega) (by omega) (by omega)]
        simp (disch := omega) only [aOk, eq_self, tk_sB, pr_sB, tk_wr, pr_wr, nQ_nat, nQ_neg, nQ_add, nQ_mul, nQ_lt, leF, ltT, ltF, rd_sB, rd_sB0, wr_sB, wr_sB0, cn_l, cn_r, Option.toList, List.cons_append, List.nil_append, if_true, if_false, true_and, and_true, or_false, false_or, true_or, or_true, not_false_eq_true, not_true_eq_false, and_false, false_and, zb_0, zb_1, q10, rX_s, rX_r, g133_25, Nat.add_assoc, Nat.reduceAdd] at ih' ⊢
        exact ih'
    have e := L 5 0 rfl
    rw [show kpL (d 1) 0 = d 1 from rfl, rX_i] at e
    refine e.trans ?_
    rw [g133_31]
    simp (disch := omega) only [aOk, eq_self, tk_sB, pr_sB, tk_wr, pr_wr, nQ_nat, nQ_neg, nQ_add, nQ_mul, nQ_lt, leF, ltT, ltF, rd_sB, rd_sB0, wr_sB, wr_sB0, cn_l, cn_r, Option.toList, List.cons_append, List.nil_append, if_true, if_false, true_and, and_true, or_false, false_or, true_or, or_true, not_false_eq_true, not_true_eq_false, and_false, false_and, zb_0, zb_1, q10, h0, rX_n, hc, Nat.reduceAdd, g133_50]
    rw [g133_54]
    simp (disch := omega) only [aOk, eq_self, tk_sB, pr_sB, tk_wr, pr_wr, nQ_nat, nQ_neg, nQ_add, nQ_mul, nQ_lt, leF, ltT, ltF, rd_sB, rd_sB0, wr_sB, wr_sB0, cn_l, cn_r, Option.toList, List.cons_append, List.nil_append, if_true, if_false, true_and, and_true, or_false, false_or, true_or, or_true, not_false_eq_true, not_true_eq_false, and_false, false_and, zb_0, zb_1, q10, h0, rX_s, up_s, Nat.reduceAdd]
    rw [m132 h (by omega) (by omega) (by omega)]
    simp (disch := omega) only [aOk, eq_self, tk_sB, pr_sB, tk_wr, pr_wr, nQ_nat, nQ_neg, nQ_add, nQ_mul, nQ_lt, leF, ltT, ltF, rd_sB, rd_sB0, wr_sB, wr_sB0, cn_l, cn_r, Option.toList, List.cons_append, List.nil_append, if_true, if_false, true_and, and_true, or_false, false_or, true_or, or_true, not_false_eq_true, not_true_eq_false, and_false, false_and, zb_0, zb_1, q10, rX_s, rX_n, rX_3, g133_63]
  · rw [g133_2]
    simp (disch := omega) only [aOk, eq_self, tk_sB, pr_sB, tk_wr, pr_wr, nQ_nat, nQ_neg, nQ_add, nQ_mul, nQ_lt, leF, ltT, ltF, rd_sB, rd_sB0, wr_sB, wr_sB0, cn_l, cn_r, Option.toList, List.cons_append, List.nil_append, if_true, if_false, true_and, and_true, or_false, false_or, true_or, or_true, not_false_eq_true, not_true_eq_false, and_false, false_and, zb_0, zb_1, q10, h0, hc, nQ_eq, hq]
    rw [g133_31]
    simp (disch := omega) only [aOk, eq_self, tk_sB, pr_sB, tk_wr, pr_wr, nQ_nat, nQ_neg, nQ_add, nQ_mul, nQ_lt, leF, ltT, ltF, rd_sB, rd_sB0, wr_sB, wr_sB0, cn_l, cn_r, Option.toList, List.cons_append, List.nil_append, if_true, if_false, true_and, and_true, or_false, false_or, true_or, or_true, not_false_eq_true, not_true_eq_false, and_false, false_and, zb_0, zb_1, q10, h0, hc, g133_50]
    rw [g133_54]
    simp (disch := omega) only [aOk, eq_self, tk_sB, pr_sB, tk_wr, pr_wr, nQ_nat, nQ_neg, nQ_add, nQ_mul, nQ_lt, leF, ltT, ltF, rd_sB, rd_sB0, wr_sB, wr_sB0, cn_l, cn_r, Option.toList, List.cons_append, List.nil_append, if_true, if_false, true_and, and_true, or_false, false_or, true_or, or_true, not_false_eq_true, not_true_eq_false, and_false, false_and, zb_0, zb_1, q10, h0, rX_s, up_s]
    rw [m132 h (by omega) (by omega) (by omega)]
    simp (disch := omega) only [aOk, eq_self, tk_sB, pr_sB, tk_wr, pr_wr, nQ_nat, nQ_neg, nQ_add, nQ_mul, nQ_lt, leF, ltT, ltF, rd_sB, rd_sB0, wr_sB, wr_sB0, cn_l, cn_r, Option.toList, List.cons_append, List.nil_append, if_true, if_false, true_and, and_true, or_false, false_or, true_or, or_true, not_false_eq_true, not_true_eq_false, and_false, false_and, zb_0, zb_1, q10, rX_s, rX_n, rX_3, g133_63]
def deK (f : Nat → Int32) (i k : Nat) : Nat → Int32 := fun j => if 5 + 4 * i ≤ j ∧ j < 5 + k then f (j + 4) else f j
theorem deK_0 (f : Nat → Int32) (i : Nat) : deK f i (4 * i) = f := by
  funext j
  exact if_neg (by omega)
theorem deK_s (f : Nat → Int32) {i k : Nat} (hk : 4 * i ≤ k) : up (deK f i k) (5 + k) (deK f i k (5 + k + 4)) = deK f i (k + 1) := by
  have e : deK f i k (5 + k + 4) = f (5 + k + 4) := if_neg (by omega)
  funext j
  rw [e]
  by_cases hj : j = 5 + k
  · subst hj
    rw [up_s]
    exact (if_pos (by omega)).symm
  · rw [up_n hj]
    show (if _ then _ else _) = if _ then _ else _
    by_cases h3 : 5 + 4 * i ≤ j ∧ j < 5 + k
    · rw [if_pos h3, if_pos (by omega)]
    · rw [if_neg h3, if_neg (by omega)]
def deF (f : Nat → Int32) (n i : Nat) : Nat → Int32 := rvA (deK (up f 4 (nQ (n - 1))) i (4 * (n - 1))) (n - 1) 18
theorem m129 (h : ShM σ b) {n : Nat} (hn : d 1 4 = nQ n) (h60 : n ≤ 60) {i : Nat} (hi : i < n) : DoM 129 [.ref b, .int (nQ i)] (sB 7 σ b d) = some (.inl (some (.int (d 1 (5 + 4 * i + 3)))), sB 7 σ b (rX d 1 (deF (d 1) n i))) := by
  obtain ⟨h8, h0, ⟨p1, p2, p3, p4, p5, p6⟩, t1, t2, t3, t4, t5, t6⟩ := id h
  have hb : 8 ≤ b + 1 := by omega
  have L : ∀ (z : Int32) (m k : Nat), 4 * i ≤ k → k + m = 4 * (n - 1) → RuM 129 (21, [some (.ref b), some (.int (nQ i)), some (.int z), some (.int (nQ k))], [], 0, 0) (sB 7 σ b (rX d 1 (deK (up (d 1) 4 (nQ (n - 1))) i k))) = some (.inl (some (.int z)), sB 7 σ b (rX d 1 (deF (d 1) n i))) := by
    intro z m
    induction m with
    | zero =>
      intro k hk e
      obtain rfl : k = 4 * (n - 1) := e
      have e4 : deK (up (d 1) 4 (nQ (n - 1))) i (4 * (n - 1)) 4 = nQ (n - 1) := (if_neg (by omega)).trans (up_s _ _ _)
      rw [g129_21]
      simp (disch := omega) only [aOk, eq_self, tk_sB, pr_sB, tk_wr, pr_wr, nQ_nat, nQ_neg, nQ_add, nQ_mul, nQ_lt, leF, ltT, ltF, rd_sB, rd_sB0, wr_sB, wr_sB0, cn_l, cn_r, Option.toList, List.cons_append, List.nil_append, if_true, if_false, true_and, and_true, or_false, false_or, true_or, or_true, not_false_eq_true, not_true_eq_false, and_false, false_and, zb_0, zb_1, q10, h0, p1, t1, rX_s, e4]
      rw [m119 h (n := n - 1) (by rw [rX_s]; exact e4) (by omega)]
      simp (disch := omega) only [aOk, eq_self, tk_sB, pr_sB, tk_wr, pr_wr, nQ_nat, nQ_neg, nQ_add, nQ_mul, nQ_lt, leF, ltT, ltF, rd_sB, rd_sB0, wr_sB, wr_sB0, cn_l, cn_r, Option.toList, List.cons_append, List.nil_append, if_true, if_false, true_and, and_true, or_false, false_or, true_or, or_true, not_false_eq_true, not_true_eq_false, and_false, false_and, zb_0, zb_1, q10, rX_s, rX_r, g129_61, deF]
    | succ m ih =>
      intro k hk e
      have e4 : deK (up (d 1) 4 (nQ (n - 1))) i k 4 = nQ (n - 1) := (if_neg (by omega)).trans (up_s _ _ _)
      have e1 := deK_s (up (d 1) 4 (nQ (n - 1))) (i := i) (k := k) hk
      rw [g129_21]
      simp (disch := omega) only [aOk, eq_self, tk_sB, pr_sB, tk_wr, pr_wr, nQ_nat, nQ_neg, nQ_add, nQ_mul, nQ_lt, leF, ltT, ltF, rd_sB, rd_sB0, wr_sB, wr_sB0, cn_l, cn_r, Option.toList, List.cons_append, List.nil_append, if_true, if_false, true_and, and_true, or_false, false_or, true_or, or_true, not_false_eq_true, not_true_eq_false, and_false, false_and, zb_0, zb_1, q10, h0, p1, t1, hb, rX_s, rX_r, e4, e1, g129_51]
      exact ih (k + 1) (by omega) (by omega)
  refine (g129_0).trans ?_
  have e := L (d 1 (5 + 4 * i + 3)) (4 * (n - 1) - 4 * i) (4 * i) (Nat.le_refl _) (by omega)
  rw [deK_0] at e
  simp (disch := omega) only [aOk, eq_self, tk_sB, pr_sB, tk_wr, pr_wr, nQ_nat, nQ_neg, nQ_add, nQ_mul, nQ_lt, leF, ltT, ltF, rd_sB, rd_sB0, wr_sB, wr_sB0, cn_l, cn_r, Option.toList, List.cons_append, List.nil_append, if_true, if_false, true_and, and_true, or_false, false_or, true_or, or_true, not_false_eq_true, not_true_eq_false, and_false, false_and, zb_0, zb_1, q10, h0, p1, t1, hb, m112 h, hn, nQ_sub, rX_s, rX_r, g129_6, g129_17]
  exact e
def mvF (f : Nat → Int32) (n : Nat) (ri : Nat → Int32) (u g i : Nat) : Nat → Int32 :=
  if raN f n ri u g = 0 then rvA (up (up f (5 + 4 * i + 1) (nQ u)) (5 + 4 * i + 2) (nQ g)) n 18 else rfF f n ri u g
def mrF (f : Nat → Int32) (ri : Nat → Int32) (u g i : Nat) : Nat → Int32 :=
  riF ri (if f (5 + 4 * i + 1) = nQ u then nQ 0 else f (5 + 4 * i + 3)) (if f (5 + 4 * i + 1) = nQ u then nQ 0 else nQ 1) (if f (5 + 4 * i + 2) = nQ g then nQ 0 else f (5 + 4 * i + 3)) (if f (5 + 4 * i + 2) = nQ g then nQ 0 else nQ 1)
theorem m130 (h : ShM σ b) {n : Nat} (hn : d 1 4 = nQ n) (h60 : n ≤ 60) {i u g : Nat} (hi : i < n) (hu : u < 6) (hg : g < 3) : DoM 130 [.ref b, .int (nQ i), .int (nQ u), .int (nQ g)] (sB 7 σ b d) = some (.inl (some (.int (nQ (raN (d 1) n (mrF (d 1) (d 5) u g i) u g)))), sB 7 σ b (rX (rX d 5 (mrF (d 1) (d 5) u g i)) 1 (mvF (d 1) n (mrF (d 1) (d 5) u g i) u g i))) := by
  obtain ⟨h8, h0, ⟨p1, p2, p3, p4, p5, p6⟩, t1, t2, t3, t4, t5, t6⟩ := id h
  have K : ∀ (r5 : Nat → Int32) (o4 o5 o6 : Int32) (o7 : Option Value), RuM 130 (88, [some (.ref b), some (.int (nQ i)), some (.int (nQ u)), some (.int (nQ g)), some (.int o4), some (.int o5), some (.int o6), o7], [], 0, 0) (sB 7 σ b (rX d 5 r5)) = some (.inl (some (.int (nQ (raN (d 1) n r5 u g)))), sB 7 σ b (rX (rX d 5 r5) 1 (mvF (d 1) n r5 u g i))) := by
    intro r5 o4 o5 o6 o7
    have e1 : (rX d 5 r5) 1 4 = nQ n := hn
    have hr := ra_le (d 1) n r5 u g
    rw [g130_88]
    simp (disch := omega) only [aOk, eq_self, tk_sB, pr_sB, tk_wr, pr_wr, nQ_nat, nQ_neg, nQ_add, nQ_mul, nQ_lt, leF, ltT, ltF, rd_sB, rd_sB0, wr_sB, wr_sB0, cn_l, cn_r, Option.toList, List.cons_append, List.nil_append, if_true, if_false, true_and, and_true, or_false, false_or, true_or, or_true, not_false_eq_true, not_true_eq_false, and_false, false_and, zb_0, zb_1, q10, h0]
    rw [m126 h e1 (by omega) hu hg]
    simp (disch := omega) only [aOk, eq_self, tk_sB, pr_sB, tk_wr, pr_wr, nQ_nat, nQ_neg, nQ_add, nQ_mul, nQ_lt, leF, ltT, ltF, rd_sB, rd_sB0, wr_sB, wr_sB0, cn_l, cn_r, Option.toList, List.cons_append, List.nil_append, if_true, if_false, true_and, and_true, or_false, false_or, true_or, or_true, not_false_eq_true, not_true_eq_false, and_false, false_and, zb_0, zb_1, q10, rX_s, rX_n, g130_94, nQ_eq]
    unfold mvF
    by_cases hq : raN (d 1) n r5 u g = 0
    · have e2 : rfF (d 1) n r5 u g = d 1 := if_pos hq
      simp (disch := omega) only [aOk, eq_self, tk_sB, pr_sB, tk_wr, pr_wr, nQ_nat, nQ_neg, nQ_add, nQ_mul, nQ_lt, leF, ltT, ltF, rd_sB, rd_sB0, wr_sB, wr_sB0, cn_l, cn_r, Option.toList, List.cons_append, List.nil_append, if_true, if_false, true_and, and_true, or_false, false_or, true_or, or_true, not_false_eq_true, not_true_eq_false, and_false, false_and, zb_0, zb_1, q10, h0, hq, e2, m113 h, rX_s, rX_r, g130_108]
      rw [g130_115]
      simp (disch := omega) only [aOk, eq_self, tk_sB, pr_sB, tk_wr, pr_wr, nQ_nat, nQ_neg, nQ_add, nQ_mul, nQ_lt, leF, ltT, ltF, rd_sB, rd_sB0, wr_sB, wr_sB0, cn_l, cn_r, Option.toList, List.cons_append, List.nil_append, if_true, if_false, true_and, and_true, or_false, false_or, true_or, or_true, not_false_eq_true, not_true_eq_false, and_false, false_and, zb_0, zb_1, q10, h0]
      rw [m119 h (n := n) (by rw [rX_s, up_n (by omega), up_n (by omega), hn]) (by omega)]
      simp (disch := omega) only [aOk, eq_self, tk_sB, pr_sB, tk_wr, pr_wr, nQ_nat, nQ_neg, nQ_add, nQ_mul, nQ_lt, leF, ltT, ltF, rd_sB, rd_sB0, wr_sB, wr_sB0, cn_l, cn_r, Option.toList, List.cons_append, List.nil_append, if_true, if_false, true_and, and_true, or_false, false_or, true_or, or_true, not_false_eq_true, not_true_eq_false, and_false, false_and, zb_0, zb_1, q10, rX_s, rX_r, g130_119]
    · simp (disch := omega) only [aOk, eq_self, tk_sB, pr_sB, tk_wr, pr_wr, nQ_nat, nQ_neg, nQ_add, nQ_mul, nQ_lt, leF, ltT, ltF, rd_sB, rd_sB0, wr_sB, wr_sB0, cn_l, cn_r, Option.toList, List.cons_append, List.nil_append, if_true, if_false, true_and, and_true, or_false, false_or, true_or, or_true, not_false_eq_true, not_true_eq_false, and_false, false_and, zb_0, zb_1, q10, hq, g130_119]
  refine (g130_0).trans ?_
  unfold mrF
  by_cases c1 : d 1 (5 + 4 * i + 1) = nQ u <;> by_cases c2 : d 1 (5 + 4 * i + 2) = nQ g <;>
    simp (disch := omega) only [aOk, eq_self, tk_sB, pr_sB, tk_wr, pr_wr, nQ_nat, nQ_neg, nQ_add, nQ_mul, nQ_lt, leF, ltT, ltF, rd_sB, rd_sB0, wr_sB, wr_sB0, cn_l, cn_r, Option.toList, List.cons_append, List.nil_append, if_true, if_false, true_and, and_true, or_false, false_or, true_or, or_true, not_false_eq_true, not_true_eq_false, and_false, false_and, zb_0, zb_1, q10, h0, m112 h, c1, c2, m125 h, K, g130_6, g130_14, g130_23, g130_31, g130_40, g130_54, g130_64, g130_75, g130_85]
end Mf
