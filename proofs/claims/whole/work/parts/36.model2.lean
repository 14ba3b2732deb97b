/-! The model's changes. -/
theorem re_le (f : Nat → Int32) (n : Nat) (ri : Nat → Int32) (u g : Nat) : ∀ (m e : Nat), e + m = 4 → reN f n ri u g m e ≤ 8
  | 0, _, _ => by unfold reN; omega
  | m + 1, e, h => by
    have hc : ceN f n ri u g e ≤ 2 := ca_le _ _ _ _ _
    have := re_le f n ri u g m (e + 1) (by omega)
    unfold reN
    split <;> omega
theorem ra_le (f : Nat → Int32) (n : Nat) (ri : Nat → Int32) (u g : Nat) : raN f n ri u g ≤ 8 := by
  unfold raN
  split
  · omega
  · exact re_le _ _ _ _ _ _ _ rfl
def riF (f : Nat → Int32) (x y z w : Int32) : Nat → Int32 := up (up (up (up f 0 x) 1 y) 2 z) 3 w
def rfF (f : Nat → Int32) (n : Nat) (ri : Nat → Int32) (u g : Nat) : Nat → Int32 :=
  if raN f n ri u g = 0 then f else lgF (up f (299 + acN ((raN f n ri u g - 1) / 2) u g) (f (299 + acN ((raN f n ri u g - 1) / 2) u g) + nQ 1)) (nQ 4) (nQ (acN ((raN f n ri u g - 1) / 2) u g)) (nQ ((raN f n ri u g - 1) / 2 - (raN f n ri u g - 1) / 2 / 2 * 2))
def crF (f : Nat → Int32) (n : Nat) (ri : Nat → Int32) (u g : Nat) (p z : Int32) : Nat → Int32 :=
  if raN f n ri u g = 0 then rvA (up (up (up (up (up f (5 + 4 * n) p) (5 + 4 * n + 1) (nQ u)) (5 + 4 * n + 2) (nQ g)) (5 + 4 * n + 3) z) 4 (nQ (n + 1))) (n + 1) 18 else rfF f n ri u g
section Me
variable {σ : Mem} {b : Nat} {d : Nat → Nat → Int32}
theorem m125 (h : ShM σ b) (x y z w : Int32) : DoM 125 [.ref b, .int x, .int y, .int z, .int w] (sB 7 σ b d) = some (.inl none, sB 7 σ b (rX d 5 (riF (d 5) x y z w))) := by
  obtain ⟨h8, h0, ⟨p1, p2, p3, p4, p5, p6⟩, t1, t2, t3, t4, t5, t6⟩ := h
  have hb : 8 ≤ b + 5 := by omega
  refine (g125_0).trans ?_
  unfold riF
  simp (disch := omega) only [aOk, eq_self, tk_sB, pr_sB, tk_wr, pr_wr, nQ_nat, nQ_neg, nQ_add, nQ_mul, nQ_lt, leF, ltT, ltF, rd_sB, rd_sB0, wr_sB, wr_sB0, cn_l, cn_r, Option.toList, List.cons_append, List.nil_append, if_true, if_false, true_and, and_true, or_false, false_or, true_or, or_true, not_false_eq_true, not_true_eq_false, and_false, false_and, zb_0, zb_1, q10, h0, p5, t5, hb, rX_s, rX_r, g125_7, g125_14, g125_21, g125_29]
theorem m126 (h : ShM σ b) {n : Nat} (hn : d 1 4 = nQ n) (h60 : n ≤ 60) {u g : Nat} (hu : u < 6) (hg : g < 3) : DoM 126 [.ref b, .int (nQ u), .int (nQ g)] (sB 7 σ b d) = some (.inl (some (.int (nQ (raN (d 1) n (d 5) u g)))), sB 7 σ b (rX d 1 (rfF (d 1) n (d 5) u g))) := by
  obtain ⟨h8, h0, ⟨p1, p2, p3, p4, p5, p6⟩, t1, t2, t3, t4, t5, t6⟩ := id h
  have hb : 8 ≤ b + 1 := by omega
  have hr := ra_le (d 1) n (d 5) u g
  have ha := ac_lt (e := (raN (d 1) n (d 5) u g - 1) / 2) hu hg
  refine (g126_0).trans ?_
  simp (disch := omega) only [aOk, eq_self, tk_sB, pr_sB, tk_wr, pr_wr, nQ_nat, nQ_neg, nQ_add, nQ_mul, nQ_lt, leF, ltT, ltF, rd_sB, rd_sB0, wr_sB, wr_sB0, cn_l, cn_r, Option.toList, List.cons_append, List.nil_append, if_true, if_false, true_and, and_true, or_false, false_or, true_or, or_true, not_false_eq_true, not_true_eq_false, and_false, false_and, zb_0, zb_1, q10, h0, m124 h hn h60 hu hg, g126_6]
  unfold rfF
  by_cases hq : raN (d 1) n (d 5) u g = 0
  · simp (disch := omega) only [aOk, eq_self, tk_sB, pr_sB, tk_wr, pr_wr, nQ_nat, nQ_neg, nQ_add, nQ_mul, nQ_lt, leF, ltT, ltF, rd_sB, rd_sB0, wr_sB, wr_sB0, cn_l, cn_r, Option.toList, List.cons_append, List.nil_append, if_true, if_false, true_and, and_true, or_false, false_or, true_or, or_true, not_false_eq_true, not_true_eq_false, and_false, false_and, zb_0, zb_1, q10, hq, rX_i, g126_52]
  · simp (disch := omega) only [aOk, eq_self, tk_sB, pr_sB, tk_wr, pr_wr, nQ_nat, nQ_neg, nQ_add, nQ_mul, nQ_lt, leF, ltT, ltF, rd_sB, rd_sB0, wr_sB, wr_sB0, cn_l, cn_r, Option.toList, List.cons_append, List.nil_append, if_true, if_false, true_and, and_true, or_false, false_or, true_or, or_true, not_false_eq_true, not_true_eq_false, and_false, false_and, zb_0, zb_1, q10, h0, p1, t1, hb, hq, nQ_sub, nQ_div, m123, m117 h, rX_s, rX_r, g126_21, g126_38, g126_52]
theorem m127 (h : ShM σ b) {n : Nat} (hn : d 1 4 = nQ n) (h60 : n < 60) {u g : Nat} (hu : u < 6) (hg : g < 3) (p z : Int32) : DoM 127 [.ref b, .int (nQ u), .int (nQ g), .int p, .int z] (sB 7 σ b d) = some (.inl (some (.int (nQ (raN (d 1) n (riF (d 5) z (nQ 1) z (nQ 1)) u g)))), sB 7 σ b (rX (rX d 5 (riF (d 5) z (nQ 1) z (nQ 1))) 1 (crF (d 1) n (riF (d 5) z (nQ 1) z (nQ 1)) u g p z))) := by
  obtain ⟨h8, h0, ⟨p1, p2, p3, p4, p5, p6⟩, t1, t2, t3, t4, t5, t6⟩ := id h
  have hb : 8 ≤ b + 1 := by omega
  have e1 : (rX d 5 (riF (d 5) z (nQ 1) z (nQ 1))) 1 4 = nQ n := hn
  have hr := ra_le (d 1) n (riF (d 5) z (nQ 1) z (nQ 1)) u g
  refine (g127_0).trans ?_
  simp (disch := omega) only [aOk, eq_self, tk_sB, pr_sB, tk_wr, pr_wr, nQ_nat, nQ_neg, nQ_add, nQ_mul, nQ_lt, leF, ltT, ltF, rd_sB, rd_sB0, wr_sB, wr_sB0, cn_l, cn_r, Option.toList, List.cons_append, List.nil_append, if_true, if_false, true_and, and_true, or_false, false_or, true_or, or_true, not_false_eq_true, not_true_eq_false, and_false, false_and, zb_0, zb_1, q10, h0, m125 h, g127_10]
  rw [m126 h e1 (by omega) hu hg]
  simp (disch := omega) only [aOk, eq_self, tk_sB, pr_sB, tk_wr, pr_wr, nQ_nat, nQ_neg, nQ_add, nQ_mul, nQ_lt, leF, ltT, ltF, rd_sB, rd_sB0, wr_sB, wr_sB0, cn_l, cn_r, Option.toList, List.cons_append, List.nil_append, if_true, if_false, true_and, and_true, or_false, false_or, true_or, or_true, not_false_eq_true, not_true_eq_false, and_false, false_and, zb_0, zb_1, q10, rX_s, rX_n, g127_16, nQ_eq]
  unfold crF
  by_cases hq : raN (d 1) n (riF (d 5) z (nQ 1) z (nQ 1)) u g = 0
  · have e2 : rfF (d 1) n (riF (d 5) z (nQ 1) z (nQ 1)) u g = d 1 := if_pos hq
    simp (disch := omega) only [aOk, eq_self, tk_sB, pr_sB, tk_wr, pr_wr, nQ_nat, nQ_neg, nQ_add, nQ_mul, nQ_lt, leF, ltT, ltF, rd_sB, rd_sB0, wr_sB, wr_sB0, cn_l, cn_r, Option.toList, List.cons_append, List.nil_append, if_true, if_false, true_and, and_true, or_false, false_or, true_or, or_true, not_false_eq_true, not_true_eq_false, and_false, false_and, zb_0, zb_1, q10, h0, p1, t1, hb, hq, e2, hn, m113 h, up_s, up_n, rX_s, rX_r, Nat.add_zero, g127_35, g127_47, g127_59, g127_72]
    rw [g127_82]
    simp (disch := omega) only [aOk, eq_self, tk_sB, pr_sB, tk_wr, pr_wr, nQ_nat, nQ_neg, nQ_add, nQ_mul, nQ_lt, leF, ltT, ltF, rd_sB, rd_sB0, wr_sB, wr_sB0, cn_l, cn_r, Option.toList, List.cons_append, List.nil_append, if_true, if_false, true_and, and_true, or_false, false_or, true_or, or_true, not_false_eq_true, not_true_eq_false, and_false, false_and, zb_0, zb_1, q10, h0]
    rw [m119 h (n := n + 1) (by rw [rX_s, up_s]) (by omega)]
    simp (disch := omega) only [aOk, eq_self, tk_sB, pr_sB, tk_wr, pr_wr, nQ_nat, nQ_neg, nQ_add, nQ_mul, nQ_lt, leF, ltT, ltF, rd_sB, rd_sB0, wr_sB, wr_sB0, cn_l, cn_r, Option.toList, List.cons_append, List.nil_append, if_true, if_false, true_and, and_true, or_false, false_or, true_or, or_true, not_false_eq_true, not_true_eq_false, and_false, false_and, zb_0, zb_1, q10, rX_s, rX_r, g127_86]
  · simp (disch := omega) only [aOk, eq_self, tk_sB, pr_sB, tk_wr, pr_wr, nQ_nat, nQ_neg, nQ_add, nQ_mul, nQ_lt, leF, ltT, ltF, rd_sB, rd_sB0, wr_sB, wr_sB0, cn_l, cn_r, Option.toList, List.cons_append, List.nil_append, if_true, if_false, true_and, and_true, or_false, false_or, true_or, or_true, not_false_eq_true, not_true_eq_false, and_false, false_and, zb_0, zb_1, q10, hq, g127_86]
def rsF (f : Nat → Int32) (n : Nat) (ri : Nat → Int32) (u g i : Nat) (z : Int32) : Nat → Int32 :=
  if raN f n ri u g = 0 then rvA (up f (5 + 4 * i + 3) z) n 18 else rfF f n ri u g
abbrev moF (f : Nat → Int32) (i : Nat) (z : Int32) : Int32 := if f (5 + 4 * i + 3) < z then z - f (5 + 4 * i + 3) else nQ 0
theorem m128 (h : ShM σ b) {n : Nat} (hn : d 1 4 = nQ n) (h60 : n ≤ 60) {i u g : Nat} (hi : i < n) (hu : u < 6) (hg : g < 3) (eu : d 1 (5 + 4 * i + 1) = nQ u) (eg : d 1 (5 + 4 * i + 2) = nQ g) (z : Int32) : DoM 128 [.ref b, .int (nQ i), .int z] (sB 7 σ b d) = some (.inl (some (.int (nQ (raN (d 1) n (riF (d 5) (moF (d 1) i z) (nQ 0) (moF (d 1) i z) (nQ 0)) u g)))), sB 7 σ b (rX (rX d 5 (riF (d 5) (moF (d 1) i z) (nQ 0) (moF (d 1) i z) (nQ 0))) 1 (rsF (d 1) n (riF (d 5) (moF (d 1) i z) (nQ 0) (moF (d 1) i z) (nQ 0)) u g i z))) := by
  obtain ⟨h8, h0, ⟨p1, p2, p3, p4, p5, p6⟩, t1, t2, t3, t4, t5, t6⟩ := id h
  have K : ∀ (mo : Int32) (o3 o4 : Option Value), RuM 128 (22, [some (.ref b), some (.int (nQ i)), some (.int z), o3, o4], [.int mo], 0, 0) (sB 7 σ b d) = some (.inl (some (.int (nQ (raN (d 1) n (riF (d 5) mo (nQ 0) mo (nQ 0)) u g)))), sB 7 σ b (rX (rX d 5 (riF (d 5) mo (nQ 0) mo (nQ 0))) 1 (rsF (d 1) n (riF (d 5) mo (nQ 0) mo (nQ 0)) u g i z))) := by
    intro mo o3 o4
    have e1 : (rX d 5 (riF (d 5) mo (nQ 0) mo (nQ 0))) 1 4 = nQ n := hn
    have hr := ra_le (d 1) n (riF (d 5) mo (nQ 0) mo (nQ 0)) u g
    rw [g128_22]
    simp (disch := omega) only [aOk, eq_self, tk_sB, pr_sB, tk_wr, pr_wr, nQ_nat, nQ_neg, nQ_add, nQ_mul, nQ_lt, leF, ltT, ltF, rd_sB, rd_sB0, wr_sB, wr_sB0, cn_l, cn_r, Option.toList, List.cons_append, List.nil_append, if_true, if_false, true_and, and_true, or_false, false_or, true_or, or_true, not_false_eq_true, not_true_eq_false, and_false, false_and, zb_0, zb_1, q10, h0, m125 h, m112 h, eu, eg, rX_n, g128_31, g128_38, g128_44]
    rw [m126 h e1 (by omega) hu hg]
    simp (disch := omega) only [aOk, eq_self, tk_sB, pr_sB, tk_wr, pr_wr, nQ_nat, nQ_neg, nQ_add, nQ_mul, nQ_lt, leF, ltT, ltF, rd_sB, rd_sB0, wr_sB, wr_sB0, cn_l, cn_r, Option.toList, List.cons_append, List.nil_append, if_true, if_false, true_and, and_true, or_false, false_or, true_or, or_true, not_false_eq_true, not_true_eq_false, and_false, false_and, zb_0, zb_1, q10, rX_s, rX_n, g128_47, nQ_eq]
    unfold rsF
    by_cases hq : raN (d 1) n (riF (d 5) mo (nQ 0) mo (nQ 0)) u g = 0
    · have e2 : rfF (d 1) n (riF (d 5) mo (nQ 0) mo (nQ 0)) u g = d 1 := if_pos hq
      simp (disch := omega) only [aOk, eq_self, tk_sB, pr_sB, tk_wr, pr_wr, nQ_nat, nQ_neg, nQ_add, nQ_mul, nQ_lt, leF, ltT, ltF, rd_sB, rd_sB0, wr_sB, wr_sB0, cn_l, cn_r, Option.toList, List.cons_append, List.nil_append, if_true, if_false, true_and, and_true, or_false, false_or, true_or, or_true, not_false_eq_true, not_true_eq_false, and_false, false_and, zb_0, zb_1, q10, h0, hq, e2, m113 h, rX_s, rX_r]
      rw [g128_61]
      simp (disch := omega) only [aOk, eq_self, tk_sB, pr_sB, tk_wr, pr_wr, nQ_nat, nQ_neg, nQ_add, nQ_mul, nQ_lt, leF, ltT, ltF, rd_sB, rd_sB0, wr_sB, wr_sB0, cn_l, cn_r, Option.toList, List.cons_append, List.nil_append, if_true, if_false, true_and, and_true, or_false, false_or, true_or, or_true, not_false_eq_true, not_true_eq_false, and_false, false_and, zb_0, zb_1, q10, h0]
      rw [m119 h (n := n) (by rw [rX_s, up_n (by omega), hn]) (by omega)]
      simp (disch := omega) only [aOk, eq_self, tk_sB, pr_sB, tk_wr, pr_wr, nQ_nat, nQ_neg, nQ_add, nQ_mul, nQ_lt, leF, ltT, ltF, rd_sB, rd_sB0, wr_sB, wr_sB0, cn_l, cn_r, Option.toList, List.cons_append, List.nil_append, if_true, if_false, true_and, and_true, or_false, false_or, true_or, or_true, not_false_eq_true, not_true_eq_false, and_false, false_and, zb_0, zb_1, q10, rX_s, rX_r, g128_65]
    · simp (disch := omega) only [aOk, eq_self, tk_sB, pr_sB, tk_wr, pr_wr, nQ_nat, nQ_neg, nQ_add, nQ_mul, nQ_lt, leF, ltT, ltF, rd_sB, rd_sB0, wr_sB, wr_sB0, cn_l, cn_r, Option.toList, List.cons_append, List.nil_append, if_true, if_false, true_and, and_true, or_false, false_or, true_or, or_true, not_false_eq_true, not_true_eq_false, and_false, false_and, zb_0, zb_1, q10, hq, g128_65]
  refine (g128_0).trans ?_
  unfold moF
  by_cases hc : d 1 (5 + 4 * i + 3) < z
  · simp (disch := omega) only [aOk, eq_self, tk_sB, pr_sB, tk_wr, pr_wr, nQ_nat, nQ_neg, nQ_add, nQ_mul, nQ_lt, leF, ltT, ltF, rd_sB, rd_sB0, wr_sB, wr_sB0, cn_l, cn_r, Option.toList, List.cons_append, List.nil_append, if_true, if_false, true_and, and_true, or_false, false_or, true_or, or_true, not_false_eq_true, not_true_eq_false, and_false, false_and, zb_0, zb_1, q10, h0, m112 h, hc, g128_7, g128_17, K]
  · simp (disch := omega) only [aOk, eq_self, tk_sB, pr_sB, tk_wr, pr_wr, nQ_nat, nQ_neg, nQ_add, nQ_mul, nQ_lt, leF, ltT, ltF, rd_sB, rd_sB0, wr_sB, wr_sB0, cn_l, cn_r, Option.toList, List.cons_append, List.nil_append, if_true, if_false, true_and, and_true, or_false, false_or, true_or, or_true, not_false_eq_true, not_true_eq_false, and_false, false_and, zb_0, zb_1, q10, h0, m112 h, hc, g128_7, g128_17, K]
abbrev edP (f : Nat → Int32) (k : Nat) : Prop := ¬ f (281 + k) = -1 ∧ f 0 - f (281 + k) = f (1 + (k - k / 2 * 2))
def edR (f : Nat → Int32) : Nat → Nat → Int32
  | 0 => f
  | k + 1 => if edP (edR f k) k then lgF (edR f k) (nQ 3) (nQ (k / 2)) (nQ (k - k / 2 * 2)) else edR f k
def edC (f : Nat → Int32) : Nat → Nat
  | 0 => 0
  | k + 1 => edC f k + if edP (edR f k) k then 1 else 0
theorem edR_s (f : Nat → Int32) (k : Nat) : edR f (k + 1) = if edP (edR f k) k then lgF (edR f k) (nQ 3) (nQ (k / 2)) (nQ (k - k / 2 * 2)) else edR f k := rfl
theorem edC_s (f : Nat → Int32) (k : Nat) : edC f (k + 1) = edC f k + if edP (edR f k) k then 1 else 0 := rfl
def dyR (f : Nat → Int32) : Nat → Nat → Int32
  | 0 => f
  | m + 1 => edR (up (dyR f m) 0 (dyR f m 0 + nQ 1)) 18
def dyC (f : Nat → Int32) : Nat → Nat
  | 0 => 0
  | m + 1 => dyC f m + edC (up (dyR f m) 0 (dyR f m 0 + nQ 1)) 18
theorem dyR_s (f : Nat → Int32) (m : Nat) : dyR f (m + 1) = edR (up (dyR f m) 0 (dyR f m 0 + nQ 1)) 18 := rfl
theorem dyC_s (f : Nat → Int32) (m : Nat) : dyC f (m + 1) = dyC f m + edC (up (dyR f m) 0 (dyR f m 0 + nQ 1)) 18 := rfl
theorem m131 (h : ShM σ b) {n : Nat} (hn : n ≤ 100) : DoM 131 [.ref b, .int (nQ n)] (sB 7 σ b d) = some (.inl (some (.int (nQ (dyC (d 1) n)))), sB 7 σ b (rX d 1 (dyR (d 1) n))) := by
  obtain ⟨h8, h0, ⟨p1, p2, p3, p4, p5, p6⟩, t1, t2, t3, t4, t5, t6⟩ := id h
  have hb : 8 ≤ b + 1 := by omega
  have I : ∀ (f : Nat → Int32) (c i m k : Nat), k + m = 18 → RuM 131 (22, [some (.ref b), some (.int (nQ n)), some (.int (nQ (c + edC f k))), some (.int (nQ i)), some (.int (nQ k))], [], 0, 0) (sB 7 σ b (rX d 1 (edR f k))) = RuM 131 (4, [some (.ref b), some (.int (nQ n)), some (.int (nQ (c + edC f 18))), some (.int (nQ (i + 1))), some (.int (nQ 18))], [], 0, 0) (sB 7 σ b (rX d 1 (edR f 18))) := by
    intro f c i m
    induction m with
    | zero =>
      intro k e
      obtain rfl : k = 18 := e
      rw [g131_22, if_neg (by rw [nQ_lt (by decide) (by decide)]; decide), nQ_add]
    | succ m ih =>
      intro k e
      have ih' := ih (k + 1) (by omega)
      rw [edR_s, edC_s] at ih'
      rw [g131_22]
      simp (disch := omega) only [aOk, eq_self, tk_sB, pr_sB, tk_wr, pr_wr, nQ_nat, nQ_neg, nQ_add, nQ_mul, nQ_lt, leF, ltT, ltF, rd_sB, rd_sB0, wr_sB, wr_sB0, cn_l, cn_r, Option.toList, List.cons_append, List.nil_append, if_true, if_false, true_and, and_true, or_false, false_or, true_or, or_true, not_false_eq_true, not_true_eq_false, and_false, false_and, zb_0, zb_1, q10, h0, p1, t1, nQ_div, nQ_sub, rX_s, m117 h, rX_r, g131_89, g131_92]
      by_cases c1 : edR f k (281 + k) = -1
      · have c3 : ¬ edP (edR f k) k := fun z => z.1 c1
        rw [if_neg c3, if_neg c3] at ih'
        simp only [c1, aOk, eq_self, tk_sB, pr_sB, tk_wr, pr_wr, nQ_nat, nQ_neg, nQ_add, nQ_mul, nQ_lt, leF, ltT, ltF, rd_sB, rd_sB0, wr_sB, wr_sB0, cn_l, cn_r, Option.toList, List.cons_append, List.nil_append, if_true, if_false, true_and, and_true, or_false, false_or, true_or, or_true, not_false_eq_true, not_true_eq_false, and_false, false_and, zb_0, zb_1, q10] at ih' ⊢
        exact ih'
      · by_cases c2 : edR f k 0 - edR f k (281 + k) = edR f k (1 + (k - k / 2 * 2))
        · have c3 : edP (edR f k) k := ⟨c1, c2⟩
          rw [if_pos c3, if_pos c3] at ih'
          simp only [c1, c2, aOk, eq_self, tk_sB, pr_sB, tk_wr, pr_wr, nQ_nat, nQ_neg, nQ_add, nQ_mul, nQ_lt, leF, ltT, ltF, rd_sB, rd_sB0, wr_sB, wr_sB0, cn_l, cn_r, Option.toList, List.cons_append, List.nil_append, if_true, if_false, true_and, and_true, or_false, false_or, true_or, or_true, not_false_eq_true, not_true_eq_false, and_false, false_and, zb_0, zb_1, q10, Nat.add_assoc] at ih' ⊢
          exact ih'
        · have c3 : ¬ edP (edR f k) k := fun z => c2 z.2
          rw [if_neg c3, if_neg c3] at ih'
          simp only [c1, c2, aOk, eq_self, tk_sB, pr_sB, tk_wr, pr_wr, nQ_nat, nQ_neg, nQ_add, nQ_mul, nQ_lt, leF, ltT, ltF, rd_sB, rd_sB0, wr_sB, wr_sB0, cn_l, cn_r, Option.toList, List.cons_append, List.nil_append, if_true, if_false, true_and, and_true, or_false, false_or, true_or, or_true, not_false_eq_true, not_true_eq_false, and_false, false_and, zb_0, zb_1, q10] at ih' ⊢
          exact ih'
  have L : ∀ (m i : Nat) (o4 : Option Value), i + m = n → RuM 131 (4, [some (.ref b), some (.int (nQ n)), some (.int (nQ (dyC (d 1) i))), some (.int (nQ i)), o4], [], 0, 0) (sB 7 σ b (rX d 1 (dyR (d 1) i))) = some (.inl (some (.int (nQ (dyC (d 1) n)))), sB 7 σ b (rX d 1 (dyR (d 1) n))) := by
    intro m
    induction m with
    | zero =>
      intro i o4 e
      obtain rfl : i = n := e
      rw [g131_4]
      simp (disch := omega) only [aOk, eq_self, tk_sB, pr_sB, tk_wr, pr_wr, nQ_nat, nQ_neg, nQ_add, nQ_mul, nQ_lt, leF, ltT, ltF, rd_sB, rd_sB0, wr_sB, wr_sB0, cn_l, cn_r, Option.toList, List.cons_append, List.nil_append, if_true, if_false, true_and, and_true, or_false, false_or, true_or, or_true, not_false_eq_true, not_true_eq_false, and_false, false_and, zb_0, zb_1, q10]
    | succ m ih =>
      intro i o4 e
      have ih' := ih (i + 1) (some (.int (nQ 18))) (by omega)
      have I' := I (up (dyR (d 1) i) 0 (dyR (d 1) i 0 + nQ 1)) (dyC (d 1) i) i 18 0 rfl
      rw [g131_4]
      simp (disch := omega) only [aOk, eq_self, tk_sB, pr_sB, tk_wr, pr_wr, nQ_nat, nQ_neg, nQ_add, nQ_mul, nQ_lt, leF, ltT, ltF, rd_sB, rd_sB0, wr_sB, wr_sB0, cn_l, cn_r, Option.toList, List.cons_append, List.nil_append, if_true, if_false, true_and, and_true, or_false, false_or, true_or, or_true, not_false_eq_true, not_true_eq_false, and_false, false_and, zb_0, zb_1, q10, h0, p1, t1, hb, rX_s, rX_r, g131_19]
      exact I'.trans ih'
  have := L n 0 none (Nat.zero_add n)
  rw [show dyR (d 1) 0 = d 1 from rfl, rX_i] at this
  exact (g131_0).trans this
end Me
