/-! The class's states: all reviews, charges, reasons, days. -/
theorem q_rv (f : Nat → Int32) (n a r : Nat) (hk : 2 * a + r < 18) {i : Nat} (h1 : i < 281 ∨ 357 ≤ i) : rvF f n a r i = f i := by
  unfold rvF
  have q : ∀ x y z : Int32, ∀ g : Nat → Int32, lgF g x y z i = g i := fun x y z g => by
    rcases h1 with h1 | h1
    · exact lg_lo _ _ _ _ (by omega)
    · exact lg_hi _ _ _ _ h1
  split
  · rw [q, up_n (by omega)]
  · split
    · rw [q, up_n (by omega)]
    · rfl
theorem q_rA (f : Nat → Int32) (n : Nat) {i : Nat} (h1 : i < 281 ∨ 357 ≤ i) : ∀ k, k ≤ 18 → rvA f n k i = f i
  | 0, _ => rfl
  | k + 1, h => by rw [rvA_s, q_rv _ _ _ _ (by omega) h1]; exact q_rA f n h1 k (by omega)
theorem us_rA (f : Nat → Int32) {n : Nat} (h60 : n ≤ 60) (a : Int32) (r k : Nat) (hk : k ≤ 18) : usF (rvA f n k) a r n = usF f a r n := by
  refine us_cg a r n (fun i hi => ?_)
  unfold qM
  rw [q_rA f n (by omega) k hk, q_rA f n (by omega) k hk, q_rA f n (by omega) k hk, q_rA f n (by omega) k hk]
abbrev byR (x y : Int32) : Prop := (¬ nQ 0 < x ∧ y = nQ 0) ∨ (nQ 0 < x ∧ y = x)
theorem lt_n0 {x : Int32} (h : nQ 0 < x) : ¬ x = nQ 0 := fun e => by
  rw [e, nQ_lt (by decide) (by decide)] at h
  exact absurd h (Nat.lt_irrefl 0)
def chD (d : Nat → Nat → Int32) (a : Nat) (x y : Int32) : Nat → Nat → Int32 := rX d 3 (up (up (d 3) (2 * a) (d 3 (2 * a) + x)) (2 * a + 1) (d 3 (2 * a + 1) + y))
theorem ch_n {d : Nat → Nat → Int32} {a u : Nat} {x y : Int32} (h : ¬ u = 3) : chD d a x y u = d u := rX_n h
section Cu
variable {σ : Mem} {b : Nat} {d : Nat → Nat → Int32} {f U : Nat → Int32}
theorem c27 (h : ShS σ b) (hR : RlC d f U) : ∃ d', DoM 27 [.ref b] (sB 17 σ b d) = some (.inl none, sB 17 σ b d') ∧ RlC d' (rAU f U 18) U ∧ ∀ u, 8 ≤ u → u < 13 → d' u = d u := by
  have L : ∀ (m i : Nat) (d : Nat → Nat → Int32), i + m = 18 → RlC d (rAU f U i) U → ∃ d', RuM 27 (2, [some (.ref b), some (.int (nQ i))], [], 0, 0) (sB 17 σ b d) = some (.inl none, sB 17 σ b d') ∧ RlC d' (rAU f U 18) U ∧ ∀ u, 8 ≤ u → u < 13 → d' u = d u := by
    intro m
    induction m with
    | zero =>
      intro i d e hR
      obtain rfl : i = 18 := e
      refine ⟨d, ?_, hR, fun _ _ _ => rfl⟩
      rw [g27_2]
      simp (disch := omega) only [aOk, eq_self, tk_sB, pr_sB, tk_wr, pr_wr, nQ_nat, nQ_neg, nQ_add, nQ_mul, nQ_lt, leF, ltT, ltF, rd_sB, rd_sB0, wr_sB, wr_sB0, cn_l, cn_r, Option.toList, List.cons_append, List.nil_append, if_true, if_false, true_and, and_true, or_false, false_or, true_or, or_true, not_false_eq_true, not_true_eq_false, and_false, false_and, zb_0, zb_1, q10]
    | succ m ih =>
      intro i d e hR
      have k0 := h.2.1.1
      obtain ⟨d1, x1, x2, x3⟩ := c28 h hR (k := i) (by omega)
      obtain ⟨d2, y1, y2, y3⟩ := ih (i + 1) d1 (by omega) x2
      refine ⟨d2, ?_, y2, fun u h1 h2 => (y3 u h1 h2).trans (x3 u h1 h2)⟩
      rw [g27_2]
      simp (disch := omega) only [aOk, eq_self, tk_sB, pr_sB, tk_wr, pr_wr, nQ_nat, nQ_neg, nQ_add, nQ_mul, nQ_lt, leF, ltT, ltF, rd_sB, rd_sB0, wr_sB, wr_sB0, cn_l, cn_r, Option.toList, List.cons_append, List.nil_append, if_true, if_false, true_and, and_true, or_false, false_or, true_or, or_true, not_false_eq_true, not_true_eq_false, and_false, false_and, zb_0, zb_1, q10, k0, x1, g27_13]
      exact y1
  obtain ⟨d', x1, x2, x3⟩ := L 18 0 d rfl hR
  exact ⟨d', (g27_0).trans x1, x2, x3⟩
theorem rA_U (f U : Nat → Int32) {n : Nat} (h60 : n ≤ 60) (hU : UsQ f n U) : ∀ k, k ≤ 18 → rAU f U k = rvA f n k
  | 0, _ => rfl
  | k + 1, h => by
    show rvU (rAU f U k) U k = rvF (rvA f n k) n (k / 2) (k - k / 2 * 2)
    rw [rA_U f U h60 hU k (by omega)]
    exact rv_k _ _ ((hU k (by omega)).trans (us_rA f h60 _ _ k (by omega)).symm)
theorem c22 (h : ShS σ b) {a : Nat} (ha : a < 9) (x y : Int32) : DoM 22 [.ref b, .int (nQ a), .int x, .int y] (sB 17 σ b d) = some (.inl none, sB 17 σ b (chD d a x y)) := by
  obtain ⟨h8, ⟨k0, k8, k13⟩, ⟨p1, p2, p3, p4, p5, p6, p7, p8, p9⟩, ⟨q1, q2, q3, q4⟩, ⟨e2, e3, e4⟩, ⟨t1, t2, t3, t4, t5, t6, t7⟩, ⟨t9, t10, t11, t12⟩, ⟨t14, t15, t16⟩⟩ := id h
  unfold chD
  refine (g22_0).trans ?_
  simp (disch := omega) only [aOk, eq_self, tk_sB, pr_sB, tk_wr, pr_wr, nQ_nat, nQ_neg, nQ_add, nQ_mul, nQ_lt, leF, ltT, ltF, rd_sB, rd_sB0, wr_sB, wr_sB0, cn_l, cn_r, Option.toList, List.cons_append, List.nil_append, if_true, if_false, true_and, and_true, or_false, false_or, true_or, or_true, not_false_eq_true, not_true_eq_false, and_false, false_and, zb_0, zb_1, q10, k0, k8, k13, p1, p2, p3, p4, p5, p6, p7, p8, p9, q1, q2, q3, q4, e2, e3, e4, t1, t2, t3, t4, t5, t6, t7, t9, t10, t11, t12, t14, t15, t16, le8 h8, c98, rX_s, rX_r, up_n, Nat.add_zero, g22_9, g22_14, g22_23, g22_28]
theorem c24 (h : ShS σ b) (hR : RlC d f U) {k : Nat} (hk : k < 18) {x y : Int32} (hb : byR x y) : DoM 24 [.ref b, .int (nQ k), .int x] (sB 17 σ b d) = some (.inl (some (.int (nQ (caN f k (U k) y (ovF f (f (281 + k)) (f 0) (k - k / 2 * 2)))))), sB 17 σ b d) := by
  obtain ⟨h8, ⟨k0, k8, k13⟩, ⟨p1, p2, p3, p4, p5, p6, p7, p8, p9⟩, ⟨q1, q2, q3, q4⟩, ⟨e2, e3, e4⟩, ⟨t1, t2, t3, t4, t5, t6, t7⟩, ⟨t9, t10, t11, t12⟩, ⟨t14, t15, t16⟩⟩ := id h
  obtain ⟨a1, a2, a3, a4⟩ := hR.2.1 k hk
  have r31 := c31 h hR hk
  refine (g24_0).trans ?_
  unfold caN
  rcases hb with ⟨hx, rfl⟩ | ⟨hx, rfl⟩
  · rw [if_neg hx, if_pos rfl]
  · have hx' := eq_true hx
    have hx2 := eq_false (lt_n0 hx)
    rcases Classical.propComplete (ovF f (f (281 + k)) (f 0) (k - k / 2 * 2)) with c4 | c4 <;> by_cases c1 : f (263 + k) = nQ 0 <;> by_cases c2 : f (263 + k) < U k + y <;> by_cases c3 : f (245 + k) < U k + y <;> simp (disch := omega) only [aOk, eq_self, tk_sB, pr_sB, tk_wr, pr_wr, nQ_nat, nQ_neg, nQ_add, nQ_mul, nQ_lt, leF, ltT, ltF, rd_sB, rd_sB0, wr_sB, wr_sB0, cn_l, cn_r, Option.toList, List.cons_append, List.nil_append, if_true, if_false, true_and, and_true, or_false, false_or, true_or, or_true, not_false_eq_true, not_true_eq_false, and_false, false_and, zb_0, zb_1, q10, k0, k8, k13, p1, p2, p3, p4, p5, p6, p7, p8, p9, q1, q2, q3, q4, e2, e3, e4, t1, t2, t3, t4, t5, t6, t7, t9, t10, t11, t12, t14, t15, t16, le8 h8, a1, a2, a3, a4, r31, hx', hx2, c1, c2, c3, c4, q10, g24_36, g24_41, g24_58, g24_59]
theorem c23 (h : ShS σ b) (hR : RlC d f U) {n : Nat} (hU : UsQ f n U) {u g : Nat} (hu : u < 6) (hg : g < 3) {x0 x1 x2 x3 : Int32} {ri : Nat → Int32} (b0 : byR x0 (ri 0)) (b1 : byR x1 (ri 1)) (b2 : byR x2 (ri 2)) (b3 : byR x3 (ri 3)) : DoM 23 [.ref b, .int (nQ u), .int x0, .int x1, .int (nQ g), .int x2, .int x3] (sB 17 σ b d) = some (.inl (some (.int (nQ (raN f n ri u g)))), sB 17 σ b d) := by
  obtain ⟨h8, ⟨k0, k8, k13⟩, ⟨p1, p2, p3, p4, p5, p6, p7, p8, p9⟩, ⟨q1, q2, q3, q4⟩, ⟨e2, e3, e4⟩, ⟨t1, t2, t3, t4, t5, t6, t7⟩, ⟨t9, t10, t11, t12⟩, ⟨t14, t15, t16⟩⟩ := id h
  have K : ∀ (e k : Nat) (x : Int32), k < 18 → k = 2 * acN e u g + (e - e / 2 * 2) → byR x (ri e) → DoM 24 [.ref b, .int (nQ k), .int x] (sB 17 σ b d) = some (.inl (some (.int (nQ (ceN f n ri u g e)))), sB 17 σ b d) := by
    intro e k x hk hke hx
    have := c24 h hR hk hx
    rw [hU k hk] at this
    have e1 : k / 2 = acN e u g := by omega
    have e2 : k - k / 2 * 2 = e - e / 2 * 2 := by omega
    rw [e1, show k - acN e u g * 2 = e - e / 2 * 2 by omega] at this
    rw [hke] at this ⊢
    exact this
  have K0 := K 0 (2 * u + 0) x0 (by omega) rfl b0
  have K1 := K 1 (2 * u + 1) x1 (by omega) rfl b1
  have K2 := K 2 (2 * (6 + g) + 0) x2 (by omega) rfl b2
  have K3 := K 3 (2 * (6 + g) + 1) x3 (by omega) rfl b3
  have l0 : ceN f n ri u g 0 ≤ 2 := ca_le _ _ _ _ _
  have l1 : ceN f n ri u g 1 ≤ 2 := ca_le _ _ _ _ _
  have l2 : ceN f n ri u g 2 ≤ 2 := ca_le _ _ _ _ _
  have l3 : ceN f n ri u g 3 ≤ 2 := ca_le _ _ _ _ _
  have ex := hR.1.2.2 u hu
  refine (g23_0).trans ?_
  unfold raN
  rcases Classical.propComplete (frF f u) with c | c
  · simp (disch := omega) only [aOk, eq_self, tk_sB, pr_sB, tk_wr, pr_wr, nQ_nat, nQ_neg, nQ_add, nQ_mul, nQ_lt, leF, ltT, ltF, rd_sB, rd_sB0, wr_sB, wr_sB0, cn_l, cn_r, Option.toList, List.cons_append, List.nil_append, if_true, if_false, true_and, and_true, or_false, false_or, true_or, or_true, not_false_eq_true, not_true_eq_false, and_false, false_and, zb_0, zb_1, q10, k0, k8, k13, p1, p2, p3, p4, p5, p6, p7, p8, p9, q1, q2, q3, q4, e2, e3, e4, t1, t2, t3, t4, t5, t6, t7, t9, t10, t11, t12, t14, t15, t16, le8 h8, ex, c, q10]
  · unfold reN reN reN reN reN
    by_cases c0 : ceN f n ri u g 0 = 0
    · by_cases c1 : ceN f n ri u g 1 = 0
      · by_cases c2 : ceN f n ri u g 2 = 0
        · by_cases c3 : ceN f n ri u g 3 = 0
          · simp (disch := omega) only [aOk, eq_self, tk_sB, pr_sB, tk_wr, pr_wr, nQ_nat, nQ_neg, nQ_add, nQ_mul, nQ_lt, leF, ltT, ltF, rd_sB, rd_sB0, wr_sB, wr_sB0, cn_l, cn_r, Option.toList, List.cons_append, List.nil_append, if_true, if_false, true_and, and_true, or_false, false_or, true_or, or_true, not_false_eq_true, not_true_eq_false, and_false, false_and, zb_0, zb_1, q10, k0, k8, k13, p1, p2, p3, p4, p5, p6, p7, p8, p9, q1, q2, q3, q4, e2, e3, e4, t1, t2, t3, t4, t5, t6, t7, t9, t10, t11, t12, t14, t15, t16, le8 h8, ex, c, c98, c99, K0, K1, K2, K3, c0, c1, c2, c3, Nat.lt_irrefl, g23_16, g23_24, g23_28, g23_44, g23_48, g23_67, g23_72, g23_91, g23_96, g23_112]
          · have c3' : 0 < ceN f n ri u g 3 := by omega
            simp (disch := omega) only [aOk, eq_self, tk_sB, pr_sB, tk_wr, pr_wr, nQ_nat, nQ_neg, nQ_add, nQ_mul, nQ_lt, leF, ltT, ltF, rd_sB, rd_sB0, wr_sB, wr_sB0, cn_l, cn_r, Option.toList, List.cons_append, List.nil_append, if_true, if_false, true_and, and_true, or_false, false_or, true_or, or_true, not_false_eq_true, not_true_eq_false, and_false, false_and, zb_0, zb_1, q10, k0, k8, k13, p1, p2, p3, p4, p5, p6, p7, p8, p9, q1, q2, q3, q4, e2, e3, e4, t1, t2, t3, t4, t5, t6, t7, t9, t10, t11, t12, t14, t15, t16, le8 h8, ex, c, c98, c99, K0, K1, K2, K3, c0, c1, c2, c3, c3', nQ_eq, Nat.lt_irrefl, g23_16, g23_24, g23_28, g23_44, g23_48, g23_67, g23_72, g23_91, g23_96, g23_112]
        · have c2' : 0 < ceN f n ri u g 2 := by omega
          simp (disch := omega) only [aOk, eq_self, tk_sB, pr_sB, tk_wr, pr_wr, nQ_nat, nQ_neg, nQ_add, nQ_mul, nQ_lt, leF, ltT, ltF, rd_sB, rd_sB0, wr_sB, wr_sB0, cn_l, cn_r, Option.toList, List.cons_append, List.nil_append, if_true, if_false, true_and, and_true, or_false, false_or, true_or, or_true, not_false_eq_true, not_true_eq_false, and_false, false_and, zb_0, zb_1, q10, k0, k8, k13, p1, p2, p3, p4, p5, p6, p7, p8, p9, q1, q2, q3, q4, e2, e3, e4, t1, t2, t3, t4, t5, t6, t7, t9, t10, t11, t12, t14, t15, t16, le8 h8, ex, c, c98, c99, K0, K1, K2, c0, c1, c2, c2', nQ_eq, Nat.lt_irrefl, g23_16, g23_24, g23_28, g23_44, g23_48, g23_67, g23_72, g23_91, g23_96, g23_112]
      · have c1' : 0 < ceN f n ri u g 1 := by omega
        simp (disch := omega) only [aOk, eq_self, tk_sB, pr_sB, tk_wr, pr_wr, nQ_nat, nQ_neg, nQ_add, nQ_mul, nQ_lt, leF, ltT, ltF, rd_sB, rd_sB0, wr_sB, wr_sB0, cn_l, cn_r, Option.toList, List.cons_append, List.nil_append, if_true, if_false, true_and, and_true, or_false, false_or, true_or, or_true, not_false_eq_true, not_true_eq_false, and_false, false_and, zb_0, zb_1, q10, k0, k8, k13, p1, p2, p3, p4, p5, p6, p7, p8, p9, q1, q2, q3, q4, e2, e3, e4, t1, t2, t3, t4, t5, t6, t7, t9, t10, t11, t12, t14, t15, t16, le8 h8, ex, c, c98, c99, K0, K1, c0, c1, c1', nQ_eq, Nat.lt_irrefl, g23_16, g23_24, g23_28, g23_44, g23_48, g23_67, g23_72, g23_91, g23_96, g23_112]
    · have c0' : 0 < ceN f n ri u g 0 := by omega
      simp (disch := omega) only [aOk, eq_self, tk_sB, pr_sB, tk_wr, pr_wr, nQ_nat, nQ_neg, nQ_add, nQ_mul, nQ_lt, leF, ltT, ltF, rd_sB, rd_sB0, wr_sB, wr_sB0, cn_l, cn_r, Option.toList, List.cons_append, List.nil_append, if_true, if_false, true_and, and_true, or_false, false_or, true_or, or_true, not_false_eq_true, not_true_eq_false, and_false, false_and, zb_0, zb_1, q10, k0, k8, k13, p1, p2, p3, p4, p5, p6, p7, p8, p9, q1, q2, q3, q4, e2, e3, e4, t1, t2, t3, t4, t5, t6, t7, t9, t10, t11, t12, t14, t15, t16, le8 h8, ex, c, c98, c99, K0, c0, c0', nQ_eq, Nat.lt_irrefl, Nat.mul_zero, Nat.zero_add, g23_16, g23_24, g23_28, g23_44, g23_48, g23_67, g23_72, g23_91, g23_96, g23_112]
theorem Rl_rf {d : Nat → Nat → Int32} {f U : Nat → Int32} (hR : RlC d f U) {a : Nat} (ha : a < 9) (v : Int32) : RlC (rX d 7 (up (d 7) a v)) (up f (299 + a) v) U := by
  obtain ⟨⟨a1, a2, a3⟩, a4, a5, a6⟩ := hR
  refine ⟨⟨?_, fun r hr => ?_, fun u hu => ?_⟩, fun j hj => ?_, fun j hj => ?_, Lg_congr a6 (fun u h1 h2 => rX_n (by omega)) (fun i h1 h2 => up_n (by omega))⟩
  · rw [rX_n (by omega), up_n (by omega), a1]
  · rw [rX_n (by omega), up_n (by omega), a2 r hr]
  · rw [rX_n (by omega), a3 u hu]
    unfold frF
    rw [up_n (by omega)]
  · rw [rX_n (by omega), rX_n (by omega), rX_n (by omega), rX_n (by omega), up_n (by omega), up_n (by omega), up_n (by omega)]
    exact a4 j hj
  · rw [rX_s]
    by_cases e : j = a
    · rw [e, up_s, up_s]
    · rw [up_n e, up_n (by omega), a5 j hj]
theorem c26 (h : ShS σ b) (hR : RlC d f U) {n : Nat} {u g : Nat} (hu : u < 6) (hg : g < 3) {ri : Nat → Int32} (hr : ¬ raN f n ri u g = 0) : ∃ d', DoM 26 [.ref b, .int (nQ (raN f n ri u g)), .int (nQ u), .int (nQ g)] (sB 17 σ b d) = some (.inl none, sB 17 σ b d') ∧ RlC d' (rfF f n ri u g) U ∧ ∀ u, 8 ≤ u → u < 13 → d' u = d u := by
  obtain ⟨h8, ⟨k0, k8, k13⟩, ⟨p1, p2, p3, p4, p5, p6, p7, p8, p9⟩, ⟨q1, q2, q3, q4⟩, ⟨e2, e3, e4⟩, ⟨t1, t2, t3, t4, t5, t6, t7⟩, ⟨t9, t10, t11, t12⟩, ⟨t14, t15, t16⟩⟩ := id h
  unfold rfF
  rw [if_neg hr]
  have l := ra_le f n ri u g
  generalize raN f n ri u g = ρ at *
  have ha := ac_lt (e := (ρ - 1) / 2) hu hg
  have h7 := hR.2.2.1 (acN ((ρ - 1) / 2) u g) ha
  have hR' := Rl_rf hR ha (f (299 + acN ((ρ - 1) / 2) u g) + nQ 1)
  have hk : 2 * acN ((ρ - 1) / 2) u g + ((ρ - 1) / 2 - (ρ - 1) / 2 / 2 * 2) < 18 := by omega
  obtain ⟨d', x1, x2, x3⟩ := c2 h hR'.2.2.2 hk (nQ 4) (y := f 0) (up_n (by omega)).symm
  have e1 : (2 * acN ((ρ - 1) / 2) u g + ((ρ - 1) / 2 - (ρ - 1) / 2 / 2 * 2)) / 2 = acN ((ρ - 1) / 2) u g := by omega
  rw [e1, show 2 * acN ((ρ - 1) / 2) u g + ((ρ - 1) / 2 - (ρ - 1) / 2 / 2 * 2) - acN ((ρ - 1) / 2) u g * 2 = (ρ - 1) / 2 - (ρ - 1) / 2 / 2 * 2 by omega] at x2
  refine ⟨d', ?_, Rl_lg hR' x2 x3, fun u h1 h2 => (x3 u (by omega)).trans (rX_n (by omega))⟩
  refine (g26_0).trans ?_
  have e0 := hR.1.1
  by_cases c : 4 < ρ
  · have ea : acN ((ρ - 1) / 2) u g = 6 + g := if_neg (by omega)
    rw [ea] at h7 x1 ha
    simp (disch := omega) only [aOk, eq_self, tk_sB, pr_sB, tk_wr, pr_wr, nQ_nat, nQ_neg, nQ_add, nQ_mul, nQ_lt, leF, ltT, ltF, rd_sB, rd_sB0, wr_sB, wr_sB0, cn_l, cn_r, Option.toList, List.cons_append, List.nil_append, if_true, if_false, true_and, and_true, or_false, false_or, true_or, or_true, not_false_eq_true, not_true_eq_false, and_false, false_and, zb_0, zb_1, q10, k0, k8, k13, p1, p2, p3, p4, p5, p6, p7, p8, p9, q1, q2, q3, q4, e2, e3, e4, t1, t2, t3, t4, t5, t6, t7, t9, t10, t11, t12, t14, t15, t16, le8 h8, c99, c98, c, nQ_sub, nQ_div, h7, e0, rX_n, rX_s, x1, g26_13, g26_35, g26_47, g26_54]
  · have ea : acN ((ρ - 1) / 2) u g = u := if_pos (by omega)
    rw [ea] at h7 x1 ha
    simp (disch := omega) only [aOk, eq_self, tk_sB, pr_sB, tk_wr, pr_wr, nQ_nat, nQ_neg, nQ_add, nQ_mul, nQ_lt, leF, ltT, ltF, rd_sB, rd_sB0, wr_sB, wr_sB0, cn_l, cn_r, Option.toList, List.cons_append, List.nil_append, if_true, if_false, true_and, and_true, or_false, false_or, true_or, or_true, not_false_eq_true, not_true_eq_false, and_false, false_and, zb_0, zb_1, q10, k0, k8, k13, p1, p2, p3, p4, p5, p6, p7, p8, p9, q1, q2, q3, q4, e2, e3, e4, t1, t2, t3, t4, t5, t6, t7, t9, t10, t11, t12, t14, t15, t16, le8 h8, c99, c98, c, nQ_sub, nQ_div, h7, e0, rX_n, rX_s, x1, g26_13, g26_35, g26_47, g26_54]
theorem Rl_day {d : Nat → Nat → Int32} {f U : Nat → Int32} (hR : RlC d f U) (v : Int32) : RlC (rX d 0 (up (d 0) 0 v)) (up f 0 v) U := by
  obtain ⟨⟨a1, a2, a3⟩, a4, a5, a6⟩ := hR
  refine ⟨⟨?_, fun r hr => ?_, fun u hu => ?_⟩, fun j hj => ?_, fun j hj => ?_, Lg_congr a6 (fun u h1 h2 => rX_n (by omega)) (fun i h1 h2 => up_n (by omega))⟩
  · rw [rX_s, up_s, up_s]
  · rw [rX_n (by omega), up_n (by omega), a2 r hr]
  · rw [rX_n (by omega), a3 u hu]
    unfold frF
    rw [up_n (by omega)]
  · rw [rX_n (by omega), rX_n (by omega), rX_n (by omega), rX_n (by omega), up_n (by omega), up_n (by omega), up_n (by omega)]
    exact a4 j hj
  · rw [rX_n (by omega), up_n (by omega), a5 j hj]
theorem c34 (h : ShS σ b) (hR : RlC d f U) : ∃ d', DoM 34 [.ref b] (sB 17 σ b d) = some (.inl (some (.int (nQ (edC f 18)))), sB 17 σ b d') ∧ RlC d' (edR f 18) U ∧ ∀ u, 8 ≤ u → u < 13 → d' u = d u := by
  obtain ⟨h8, ⟨k0, k8, k13⟩, ⟨p1, p2, p3, p4, p5, p6, p7, p8, p9⟩, ⟨q1, q2, q3, q4⟩, ⟨e2, e3, e4⟩, ⟨t1, t2, t3, t4, t5, t6, t7⟩, ⟨t9, t10, t11, t12⟩, ⟨t14, t15, t16⟩⟩ := id h
  have L : ∀ (m i : Nat) (d : Nat → Nat → Int32), i + m = 18 → RlC d (edR f i) U → ∃ d', RuM 34 (4, [some (.ref b), some (.int (nQ (edC f i))), some (.int (nQ i))], [], 0, 0) (sB 17 σ b d) = some (.inl (some (.int (nQ (edC f 18)))), sB 17 σ b d') ∧ RlC d' (edR f 18) U ∧ ∀ u, 8 ≤ u → u < 13 → d' u = d u := by
    intro m
    induction m with
    | zero =>
      intro i d e hR
      obtain rfl : i = 18 := e
      refine ⟨d, ?_, hR, fun _ _ _ => rfl⟩
      rw [g34_4]
      simp (disch := omega) only [aOk, eq_self, tk_sB, pr_sB, tk_wr, pr_wr, nQ_nat, nQ_neg, nQ_add, nQ_mul, nQ_lt, leF, ltT, ltF, rd_sB, rd_sB0, wr_sB, wr_sB0, cn_l, cn_r, Option.toList, List.cons_append, List.nil_append, if_true, if_false, true_and, and_true, or_false, false_or, true_or, or_true, not_false_eq_true, not_true_eq_false, and_false, false_and, zb_0, zb_1, q10]
    | succ m ih =>
      intro i d e hR
      have hi : i < 18 := by omega
      have r29 := c29 h hR hi
      have r30 := c30 h hR hi
      have a1 := hR.1.2.1 (i - i / 2 * 2) (by omega)
      have a0 := hR.1.1
      have ih' := fun d => ih (i + 1) d (by omega)
      rw [edR_s, edC_s] at ih'
      by_cases w1 : edR f i (281 + i) = -1
      · have w3 : ¬ edP (edR f i) i := fun z => z.1 w1
        rw [if_neg w3, if_neg w3] at ih'
        obtain ⟨d2, y1, y2, y3⟩ := ih' d hR
        refine ⟨d2, ?_, y2, y3⟩
        rw [g34_4]
        simp (disch := omega) only [aOk, eq_self, tk_sB, pr_sB, tk_wr, pr_wr, nQ_nat, nQ_neg, nQ_add, nQ_mul, nQ_lt, leF, ltT, ltF, rd_sB, rd_sB0, wr_sB, wr_sB0, cn_l, cn_r, Option.toList, List.cons_append, List.nil_append, if_true, if_false, true_and, and_true, or_false, false_or, true_or, or_true, not_false_eq_true, not_true_eq_false, and_false, false_and, zb_0, zb_1, q10, k0, k8, k13, p1, p2, p3, p4, p5, p6, p7, p8, p9, q1, q2, q3, q4, e2, e3, e4, t1, t2, t3, t4, t5, t6, t7, t9, t10, t11, t12, t14, t15, t16, le8 h8, r29, w1, g34_15, g34_23, g34_47, g34_50]
        exact y1
      · by_cases w2 : edR f i 0 - edR f i (281 + i) = edR f i (1 + (i - i / 2 * 2))
        · have w3 : edP (edR f i) i := ⟨w1, w2⟩
          rw [if_pos w3, if_pos w3] at ih'
          obtain ⟨d1, x1, x2, x3⟩ := c2 h hR.2.2.2 hi (nQ 3) (y := edR f i 0) rfl
          obtain ⟨d2, y1, y2, y3⟩ := ih' d1 (Rl_lg hR x2 x3)
          refine ⟨d2, ?_, y2, fun u h1 h2 => (y3 u h1 h2).trans (x3 u (by omega))⟩
          rw [g34_4]
          simp (disch := omega) only [aOk, eq_self, tk_sB, pr_sB, tk_wr, pr_wr, nQ_nat, nQ_neg, nQ_add, nQ_mul, nQ_lt, leF, ltT, ltF, rd_sB, rd_sB0, wr_sB, wr_sB0, cn_l, cn_r, Option.toList, List.cons_append, List.nil_append, if_true, if_false, true_and, and_true, or_false, false_or, true_or, or_true, not_false_eq_true, not_true_eq_false, and_false, false_and, zb_0, zb_1, q10, k0, k8, k13, p1, p2, p3, p4, p5, p6, p7, p8, p9, q1, q2, q3, q4, e2, e3, e4, t1, t2, t3, t4, t5, t6, t7, t9, t10, t11, t12, t14, t15, t16, le8 h8, r29, r30, nQ_div, nQ_sub, a0, a1, w1, w2, q10, x1, g34_15, g34_23, g34_47, g34_50]
          exact y1
        · have w3 : ¬ edP (edR f i) i := fun z => w2 z.2
          rw [if_neg w3, if_neg w3] at ih'
          obtain ⟨d2, y1, y2, y3⟩ := ih' d hR
          refine ⟨d2, ?_, y2, y3⟩
          rw [g34_4]
          simp (disch := omega) only [aOk, eq_self, tk_sB, pr_sB, tk_wr, pr_wr, nQ_nat, nQ_neg, nQ_add, nQ_mul, nQ_lt, leF, ltT, ltF, rd_sB, rd_sB0, wr_sB, wr_sB0, cn_l, cn_r, Option.toList, List.cons_append, List.nil_append, if_true, if_false, true_and, and_true, or_false, false_or, true_or, or_true, not_false_eq_true, not_true_eq_false, and_false, false_and, zb_0, zb_1, q10, k0, k8, k13, p1, p2, p3, p4, p5, p6, p7, p8, p9, q1, q2, q3, q4, e2, e3, e4, t1, t2, t3, t4, t5, t6, t7, t9, t10, t11, t12, t14, t15, t16, le8 h8, r29, r30, nQ_div, nQ_sub, a0, a1, w1, w2, q10, g34_15, g34_23, g34_47, g34_50]
          exact y1
  obtain ⟨d', x1, x2, x3⟩ := L 18 0 d rfl hR
  exact ⟨d', (g34_0).trans x1, x2, x3⟩
theorem c33 (h : ShS σ b) (hR : RlC d f U) {m : Nat} (hm : m ≤ 100) : ∃ d', DoM 33 [.ref b, .int (nQ m)] (sB 17 σ b d) = some (.inl (some (.int (nQ (dyC f m)))), sB 17 σ b d') ∧ RlC d' (dyR f m) U ∧ ∀ u, 8 ≤ u → u < 13 → d' u = d u := by
  obtain ⟨h8, ⟨k0, k8, k13⟩, ⟨p1, p2, p3, p4, p5, p6, p7, p8, p9⟩, ⟨q1, q2, q3, q4⟩, ⟨e2, e3, e4⟩, ⟨t1, t2, t3, t4, t5, t6, t7⟩, ⟨t9, t10, t11, t12⟩, ⟨t14, t15, t16⟩⟩ := id h
  have L : ∀ (r i : Nat) (d : Nat → Nat → Int32), i + r = m → RlC d (dyR f i) U → ∃ d', RuM 33 (4, [some (.ref b), some (.int (nQ m)), some (.int (nQ (dyC f i))), some (.int (nQ i))], [], 0, 0) (sB 17 σ b d) = some (.inl (some (.int (nQ (dyC f m)))), sB 17 σ b d') ∧ RlC d' (dyR f m) U ∧ ∀ u, 8 ≤ u → u < 13 → d' u = d u := by
    intro r
    induction r with
    | zero =>
      intro i d e hR
      obtain rfl : i = m := e
      refine ⟨d, ?_, hR, fun _ _ _ => rfl⟩
      rw [g33_4]
      simp (disch := omega) only [aOk, eq_self, tk_sB, pr_sB, tk_wr, pr_wr, nQ_nat, nQ_neg, nQ_add, nQ_mul, nQ_lt, leF, ltT, ltF, rd_sB, rd_sB0, wr_sB, wr_sB0, cn_l, cn_r, Option.toList, List.cons_append, List.nil_append, if_true, if_false, true_and, and_true, or_false, false_or, true_or, or_true, not_false_eq_true, not_true_eq_false, and_false, false_and, zb_0, zb_1, q10]
    | succ r ih =>
      intro i d e hR
      have a0 := hR.1.1
      obtain ⟨d1, x1, x2, x3⟩ := c34 h (Rl_day hR (dyR f i 0 + nQ 1))
      rw [← dyR_s] at x2
      obtain ⟨d2, y1, y2, y3⟩ := ih (i + 1) d1 (by omega) x2
      refine ⟨d2, ?_, y2, fun u h1 h2 => (y3 u h1 h2).trans ((x3 u h1 h2).trans (rX_n (by omega)))⟩
      rw [dyC_s] at y1
      rw [g33_4]
      simp (disch := omega) only [aOk, eq_self, tk_sB, pr_sB, tk_wr, pr_wr, nQ_nat, nQ_neg, nQ_add, nQ_mul, nQ_lt, leF, ltT, ltF, rd_sB, rd_sB0, wr_sB, wr_sB0, cn_l, cn_r, Option.toList, List.cons_append, List.nil_append, if_true, if_false, true_and, and_true, or_false, false_or, true_or, or_true, not_false_eq_true, not_true_eq_false, and_false, false_and, zb_0, zb_1, q10, k0, k8, k13, p1, p2, p3, p4, p5, p6, p7, p8, p9, q1, q2, q3, q4, e2, e3, e4, t1, t2, t3, t4, t5, t6, t7, t9, t10, t11, t12, t14, t15, t16, le8 h8, a0, x1, g33_19, g33_24]
      exact y1
  obtain ⟨d', x1, x2, x3⟩ := L m 0 d (Nat.zero_add m) hR
  exact ⟨d', (g33_0).trans x1, x2, x3⟩
end Cu
