/-! The class's states: reviews, charges, reasons. -/
def RlC (d : Nat → Nat → Int32) (f : Nat → Int32) (U : Nat → Int32) : Prop := (d 0 0 = f 0 ∧ (∀ r, r < 2 → d 1 r = f (1 + r)) ∧ (∀ u, u < 6 → d 2 u = if frF f u then nQ 1 else nQ 0)) ∧ (∀ k, k < 18 → d 3 k = U k ∧ d 4 k = f (245 + k) ∧ d 5 k = f (263 + k) ∧ d 6 k = f (281 + k)) ∧ (∀ a, a < 9 → d 7 a = f (299 + a)) ∧ LgR d f
def FlR (d : Nat → Nat → Int32) (f : Nat → Int32) (n : Nat) : Prop := d 8 0 = nQ n ∧ f 4 = nQ n ∧ n ≤ 60 ∧ (Lq (qC d) n).Perm (Lq (qM f) n)
abbrev UsQ (f : Nat → Int32) (n : Nat) (U : Nat → Int32) : Prop := ∀ k, k < 18 → U k = usF f (nQ (k / 2)) (k - k / 2 * 2) n
theorem us_cg {f f' : Nat → Int32} (a : Int32) (r : Nat) : ∀ n, (∀ i, i < n → qM f' i = qM f i) → usF f' a r n = usF f a r n := fun n h => by rw [us_sm, us_sm, Lq_congr h]
theorem Rl_lg {d d' : Nat → Nat → Int32} {f U : Nat → Int32} {x y z : Int32} (hR : RlC d f U) (hl : LgR d' (lgF f x y z)) (hd : ∀ u, u < 13 → d' u = d u) : RlC d' (lgF f x y z) U := by
  obtain ⟨⟨a1, a2, a3⟩, a4, a5, a6⟩ := hR
  refine ⟨⟨?_, fun r hr => ?_, fun u hu => ?_⟩, fun k hk => ?_, fun a ha => ?_, hl⟩
  · rw [hd 0 (by omega), lg_lo _ _ _ _ (by omega), a1]
  · rw [hd 1 (by omega), lg_lo _ _ _ _ (by omega), a2 r hr]
  · rw [hd 2 (by omega), a3 u hu]
    unfold frF
    rw [lg_lo _ _ _ _ (by omega)]
  · rw [hd 3 (by omega), hd 4 (by omega), hd 5 (by omega), hd 6 (by omega), lg_lo _ _ _ _ (by omega), lg_lo _ _ _ _ (by omega), lg_lo _ _ _ _ (by omega)]
    exact a4 k hk
  · rw [hd 7 (by omega), lg_lo _ _ _ _ (by omega), a5 a ha]
theorem Rl_st {d : Nat → Nat → Int32} {f U : Nat → Int32} (hR : RlC d f U) {k : Nat} (hk : k < 18) (v : Int32) : RlC (rX d 6 (up (d 6) k v)) (up f (281 + k) v) U := by
  obtain ⟨⟨a1, a2, a3⟩, a4, a5, a6⟩ := hR
  refine ⟨⟨?_, fun r hr => ?_, fun u hu => ?_⟩, fun j hj => ?_, fun a ha => ?_, Lg_congr a6 (fun u h1 h2 => rX_n (by omega)) (fun i h1 h2 => up_n (by omega))⟩
  · rw [rX_n (by omega), up_n (by omega), a1]
  · rw [rX_n (by omega), up_n (by omega), a2 r hr]
  · rw [rX_n (by omega), a3 u hu]
    unfold frF
    rw [up_n (by omega)]
  · obtain ⟨b1, b2, b3, b4⟩ := a4 j hj
    rw [rX_n (by omega), rX_n (by omega), rX_n (by omega), rX_s, up_n (by omega : ¬ 245 + j = 281 + k), up_n (by omega : ¬ 263 + j = 281 + k)]
    refine ⟨b1, b2, b3, ?_⟩
    by_cases e : j = k
    · rw [e, up_s, up_s]
    · rw [up_n e, up_n (by omega), b4]
  · rw [rX_n (by omega), up_n (by omega), a5 a ha]
/-- a review by usages of its own -/
def rvU (f U : Nat → Int32) (k : Nat) : Nat → Int32 := if (¬ f (245 + k) = nQ 0 ∧ f (245 + k) < U k) ∧ f (281 + k) = -1 then lgF (up f (281 + k) (f 0)) (nQ 1) (nQ (k / 2)) (nQ (k - k / 2 * 2)) else if ¬ (¬ f (245 + k) = nQ 0 ∧ f (245 + k) < U k) ∧ ¬ f (281 + k) = -1 then lgF (up f (281 + k) (-1)) (nQ 2) (nQ (k / 2)) (nQ (k - k / 2 * 2)) else f
theorem rv_k (f U : Nat → Int32) {n k : Nat} (h : U k = usF f (nQ (k / 2)) (k - k / 2 * 2) n) : rvU f U k = rvF f n (k / 2) (k - k / 2 * 2) := by
  unfold rvF rvU
  rw [show 2 * (k / 2) + (k - k / 2 * 2) = k by omega, h]
def rAU (f U : Nat → Int32) : Nat → Nat → Int32
  | 0 => f
  | k + 1 => rvU (rAU f U k) U k
section Ct
variable {σ : Mem} {b : Nat} {d : Nat → Nat → Int32} {f U : Nat → Int32}
theorem c2_at (h : ShS σ b) (hR : RlC d f U) {k : Nat} (hk : k < 18) (v x : Int32) : ∃ d', DoM 2 [.ref (b + 13), .int x, .int (nQ k), .int (f 0)] (sB 17 σ b (rX d 6 (up (d 6) k v))) = some (.inl none, sB 17 σ b d') ∧ RlC d' (lgF (up f (281 + k) v) x (nQ (k / 2)) (nQ (k - k / 2 * 2))) U ∧ ∀ u, u < 13 → d' u = rX d 6 (up (d 6) k v) u := by
  have hR' := Rl_st hR hk v
  obtain ⟨d', x1, x2, x3⟩ := c2 h hR'.2.2.2 hk x (y := f 0) (up_n (by omega)).symm
  exact ⟨d', x1, Rl_lg hR' x2 x3, x3⟩
theorem c29 (h : ShS σ b) (hR : RlC d f U) {k : Nat} (hk : k < 18) : DoM 29 [.ref b, .int (nQ k)] (sB 17 σ b d) = some (.inl (some (.int (if f (281 + k) = -1 then nQ 0 else nQ 1))), sB 17 σ b d) := by
  obtain ⟨h8, ⟨k0, k8, k13⟩, ⟨p1, p2, p3, p4, p5, p6, p7, p8, p9⟩, ⟨q1, q2, q3, q4⟩, ⟨e2, e3, e4⟩, ⟨t1, t2, t3, t4, t5, t6, t7⟩, ⟨t9, t10, t11, t12⟩, ⟨t14, t15, t16⟩⟩ := id h
  have e := (hR.2.1 k hk).2.2.2
  refine (g29_0).trans ?_
  by_cases c : f (281 + k) = -1 <;> simp (disch := omega) only [aOk, eq_self, tk_sB, pr_sB, tk_wr, pr_wr, nQ_nat, nQ_neg, nQ_add, nQ_mul, nQ_lt, leF, ltT, ltF, rd_sB, rd_sB0, wr_sB, wr_sB0, cn_l, cn_r, Option.toList, List.cons_append, List.nil_append, if_true, if_false, true_and, and_true, or_false, false_or, true_or, or_true, not_false_eq_true, not_true_eq_false, and_false, false_and, zb_0, zb_1, q10, k0, k8, k13, p1, p2, p3, p4, p5, p6, p7, p8, p9, q1, q2, q3, q4, e2, e3, e4, t1, t2, t3, t4, t5, t6, t7, t9, t10, t11, t12, t14, t15, t16, le8 h8, e, c, g29_15]
theorem c30 (h : ShS σ b) (hR : RlC d f U) {k : Nat} (hk : k < 18) : DoM 30 [.ref b, .int (nQ k)] (sB 17 σ b d) = some (.inl (some (.int (f 0 - f (281 + k)))), sB 17 σ b d) := by
  obtain ⟨h8, ⟨k0, k8, k13⟩, ⟨p1, p2, p3, p4, p5, p6, p7, p8, p9⟩, ⟨q1, q2, q3, q4⟩, ⟨e2, e3, e4⟩, ⟨t1, t2, t3, t4, t5, t6, t7⟩, ⟨t9, t10, t11, t12⟩, ⟨t14, t15, t16⟩⟩ := id h
  have e := (hR.2.1 k hk).2.2.2
  have e0 := hR.1.1
  refine (g30_0).trans ?_
  simp (disch := omega) only [aOk, eq_self, tk_sB, pr_sB, tk_wr, pr_wr, nQ_nat, nQ_neg, nQ_add, nQ_mul, nQ_lt, leF, ltT, ltF, rd_sB, rd_sB0, wr_sB, wr_sB0, cn_l, cn_r, Option.toList, List.cons_append, List.nil_append, if_true, if_false, true_and, and_true, or_false, false_or, true_or, or_true, not_false_eq_true, not_true_eq_false, and_false, false_and, zb_0, zb_1, q10, k0, k8, k13, p1, p2, p3, p4, p5, p6, p7, p8, p9, q1, q2, q3, q4, e2, e3, e4, t1, t2, t3, t4, t5, t6, t7, t9, t10, t11, t12, t14, t15, t16, le8 h8, e, e0]
theorem c31 (h : ShS σ b) (hR : RlC d f U) {k : Nat} (hk : k < 18) : DoM 31 [.ref b, .int (nQ k)] (sB 17 σ b d) = some (.inl (some (.int (if ovF f (f (281 + k)) (f 0) (k - k / 2 * 2) then nQ 1 else nQ 0))), sB 17 σ b d) := by
  obtain ⟨h8, ⟨k0, k8, k13⟩, ⟨p1, p2, p3, p4, p5, p6, p7, p8, p9⟩, ⟨q1, q2, q3, q4⟩, ⟨e2, e3, e4⟩, ⟨t1, t2, t3, t4, t5, t6, t7⟩, ⟨t9, t10, t11, t12⟩, ⟨t14, t15, t16⟩⟩ := id h
  have e := (hR.2.1 k hk).2.2.2
  have e0 := hR.1.1
  have e1 := hR.1.2.1 (k - k / 2 * 2) (by omega)
  refine (g31_0).trans ?_
  by_cases c : f (281 + k) = -1 <;> by_cases c2 : f 0 - f (281 + k) < f (1 + (k - k / 2 * 2)) <;> simp (disch := omega) only [ovF, aOk, eq_self, tk_sB, pr_sB, tk_wr, pr_wr, nQ_nat, nQ_neg, nQ_add, nQ_mul, nQ_lt, leF, ltT, ltF, rd_sB, rd_sB0, wr_sB, wr_sB0, cn_l, cn_r, Option.toList, List.cons_append, List.nil_append, if_true, if_false, true_and, and_true, or_false, false_or, true_or, or_true, not_false_eq_true, not_true_eq_false, and_false, false_and, zb_0, zb_1, q10, k0, k8, k13, p1, p2, p3, p4, p5, p6, p7, p8, p9, q1, q2, q3, q4, e2, e3, e4, t1, t2, t3, t4, t5, t6, t7, t9, t10, t11, t12, t14, t15, t16, le8 h8, nQ_div, nQ_sub, e, e0, e1, c, c2, g31_36, g31_37]
theorem c32 (h : ShS σ b) (hR : RlC d f U) (x : Int32) : DoM 32 [.ref b, .int x] (sB 17 σ b d) = some (.inl (some (.int (if nQ 10000 < f 0 + x then nQ 0 else nQ 1))), sB 17 σ b d) := by
  obtain ⟨h8, ⟨k0, k8, k13⟩, ⟨p1, p2, p3, p4, p5, p6, p7, p8, p9⟩, ⟨q1, q2, q3, q4⟩, ⟨e2, e3, e4⟩, ⟨t1, t2, t3, t4, t5, t6, t7⟩, ⟨t9, t10, t11, t12⟩, ⟨t14, t15, t16⟩⟩ := id h
  have e0 := hR.1.1
  refine (g32_0).trans ?_
  by_cases c : nQ 10000 < f 0 + x <;> simp (disch := omega) only [aOk, eq_self, tk_sB, pr_sB, tk_wr, pr_wr, nQ_nat, nQ_neg, nQ_add, nQ_mul, nQ_lt, leF, ltT, ltF, rd_sB, rd_sB0, wr_sB, wr_sB0, cn_l, cn_r, Option.toList, List.cons_append, List.nil_append, if_true, if_false, true_and, and_true, or_false, false_or, true_or, or_true, not_false_eq_true, not_true_eq_false, and_false, false_and, zb_0, zb_1, q10, k0, k8, k13, p1, p2, p3, p4, p5, p6, p7, p8, p9, q1, q2, q3, q4, e2, e3, e4, t1, t2, t3, t4, t5, t6, t7, t9, t10, t11, t12, t14, t15, t16, le8 h8, e0, c, g32_17]
theorem c28 (h : ShS σ b) (hR : RlC d f U) {k : Nat} (hk : k < 18) : ∃ d', DoM 28 [.ref b, .int (nQ k)] (sB 17 σ b d) = some (.inl none, sB 17 σ b d') ∧ RlC d' (rvU f U k) U ∧ ∀ u, 8 ≤ u → u < 13 → d' u = d u := by
  obtain ⟨h8, ⟨k0, k8, k13⟩, ⟨p1, p2, p3, p4, p5, p6, p7, p8, p9⟩, ⟨q1, q2, q3, q4⟩, ⟨e2, e3, e4⟩, ⟨t1, t2, t3, t4, t5, t6, t7⟩, ⟨t9, t10, t11, t12⟩, ⟨t14, t15, t16⟩⟩ := id h
  obtain ⟨a1, a2, a3, a4⟩ := hR.2.1 k hk
  have e0 := hR.1.1
  have r29 := c29 h hR hk
  unfold rvU
  by_cases c3 : f (281 + k) = -1
  · by_cases c1 : f (245 + k) = nQ 0
    · refine ⟨d, ?_, ?_, fun _ _ _ => rfl⟩
      · refine (g28_0).trans ?_
        simp (disch := omega) only [aOk, eq_self, tk_sB, pr_sB, tk_wr, pr_wr, nQ_nat, nQ_neg, nQ_add, nQ_mul, nQ_lt, leF, ltT, ltF, rd_sB, rd_sB0, wr_sB, wr_sB0, cn_l, cn_r, Option.toList, List.cons_append, List.nil_append, if_true, if_false, true_and, and_true, or_false, false_or, true_or, or_true, not_false_eq_true, not_true_eq_false, and_false, false_and, zb_0, zb_1, q10, k0, k8, k13, p1, p2, p3, p4, p5, p6, p7, p8, p9, q1, q2, q3, q4, e2, e3, e4, t1, t2, t3, t4, t5, t6, t7, t9, t10, t11, t12, t14, t15, t16, le8 h8, a1, a2, a3, a4, c1, c3, r29, g28_28, g28_29, g28_39, g28_52, g28_65, g28_68, g28_77, g28_87, g28_100]
      · rw [if_neg (fun z => z.1.1 c1), if_neg (fun z => z.2 c3)]
        exact hR
    · by_cases c2 : f (245 + k) < U k
      · obtain ⟨d', x1, x2, x3⟩ := c2_at h hR hk (f 0) (nQ 1)
        refine ⟨d', ?_, ?_, fun u h1 h2 => (x3 u (by omega)).trans (rX_n (by omega))⟩
        · refine (g28_0).trans ?_
          simp (disch := omega) only [aOk, eq_self, tk_sB, pr_sB, tk_wr, pr_wr, nQ_nat, nQ_neg, nQ_add, nQ_mul, nQ_lt, leF, ltT, ltF, rd_sB, rd_sB0, wr_sB, wr_sB0, cn_l, cn_r, Option.toList, List.cons_append, List.nil_append, if_true, if_false, true_and, and_true, or_false, false_or, true_or, or_true, not_false_eq_true, not_true_eq_false, and_false, false_and, zb_0, zb_1, q10, k0, k8, k13, p1, p2, p3, p4, p5, p6, p7, p8, p9, q1, q2, q3, q4, e2, e3, e4, t1, t2, t3, t4, t5, t6, t7, t9, t10, t11, t12, t14, t15, t16, le8 h8, a1, a2, a3, a4, c1, c2, c3, r29, e0, rX_n, x1, g28_28, g28_29, g28_39, g28_52, g28_65, g28_68, g28_77, g28_87, g28_100]
        · rw [if_pos ⟨⟨c1, c2⟩, c3⟩]
          exact x2
      · refine ⟨d, ?_, ?_, fun _ _ _ => rfl⟩
        · refine (g28_0).trans ?_
          simp (disch := omega) only [aOk, eq_self, tk_sB, pr_sB, tk_wr, pr_wr, nQ_nat, nQ_neg, nQ_add, nQ_mul, nQ_lt, leF, ltT, ltF, rd_sB, rd_sB0, wr_sB, wr_sB0, cn_l, cn_r, Option.toList, List.cons_append, List.nil_append, if_true, if_false, true_and, and_true, or_false, false_or, true_or, or_true, not_false_eq_true, not_true_eq_false, and_false, false_and, zb_0, zb_1, q10, k0, k8, k13, p1, p2, p3, p4, p5, p6, p7, p8, p9, q1, q2, q3, q4, e2, e3, e4, t1, t2, t3, t4, t5, t6, t7, t9, t10, t11, t12, t14, t15, t16, le8 h8, a1, a2, a3, a4, c1, c2, c3, r29, g28_28, g28_29, g28_39, g28_52, g28_65, g28_68, g28_77, g28_87, g28_100]
        · rw [if_neg (fun z => c2 z.1.2), if_neg (fun z => z.2 c3)]
          exact hR
  · by_cases c1 : f (245 + k) = nQ 0
    · obtain ⟨d', x1, x2, x3⟩ := c2_at h hR hk (-1) (nQ 2)
      refine ⟨d', ?_, ?_, fun u h1 h2 => (x3 u (by omega)).trans (rX_n (by omega))⟩
      · refine (g28_0).trans ?_
        simp (disch := omega) only [aOk, eq_self, tk_sB, pr_sB, tk_wr, pr_wr, nQ_nat, nQ_neg, nQ_add, nQ_mul, nQ_lt, leF, ltT, ltF, rd_sB, rd_sB0, wr_sB, wr_sB0, cn_l, cn_r, Option.toList, List.cons_append, List.nil_append, if_true, if_false, true_and, and_true, or_false, false_or, true_or, or_true, not_false_eq_true, not_true_eq_false, and_false, false_and, zb_0, zb_1, q10, k0, k8, k13, p1, p2, p3, p4, p5, p6, p7, p8, p9, q1, q2, q3, q4, e2, e3, e4, t1, t2, t3, t4, t5, t6, t7, t9, t10, t11, t12, t14, t15, t16, le8 h8, a1, a2, a3, a4, c1, c3, r29, e0, rX_n, x1, q10, g28_28, g28_29, g28_39, g28_52, g28_65, g28_68, g28_77, g28_87, g28_100]
      · rw [if_neg (fun z => z.1.1 c1), if_pos ⟨fun z => z.1 c1, c3⟩]
        exact x2
    · by_cases c2 : f (245 + k) < U k
      · refine ⟨d, ?_, ?_, fun _ _ _ => rfl⟩
        · refine (g28_0).trans ?_
          simp (disch := omega) only [aOk, eq_self, tk_sB, pr_sB, tk_wr, pr_wr, nQ_nat, nQ_neg, nQ_add, nQ_mul, nQ_lt, leF, ltT, ltF, rd_sB, rd_sB0, wr_sB, wr_sB0, cn_l, cn_r, Option.toList, List.cons_append, List.nil_append, if_true, if_false, true_and, and_true, or_false, false_or, true_or, or_true, not_false_eq_true, not_true_eq_false, and_false, false_and, zb_0, zb_1, q10, k0, k8, k13, p1, p2, p3, p4, p5, p6, p7, p8, p9, q1, q2, q3, q4, e2, e3, e4, t1, t2, t3, t4, t5, t6, t7, t9, t10, t11, t12, t14, t15, t16, le8 h8, a1, a2, a3, a4, c1, c2, c3, r29, q10, g28_28, g28_29, g28_39, g28_52, g28_65, g28_68, g28_77, g28_87, g28_100]
        · rw [if_neg (fun z => c3 z.2), if_neg (fun z => z.1 ⟨c1, c2⟩)]
          exact hR
      · obtain ⟨d', x1, x2, x3⟩ := c2_at h hR hk (-1) (nQ 2)
        refine ⟨d', ?_, ?_, fun u h1 h2 => (x3 u (by omega)).trans (rX_n (by omega))⟩
        · refine (g28_0).trans ?_
          simp (disch := omega) only [aOk, eq_self, tk_sB, pr_sB, tk_wr, pr_wr, nQ_nat, nQ_neg, nQ_add, nQ_mul, nQ_lt, leF, ltT, ltF, rd_sB, rd_sB0, wr_sB, wr_sB0, cn_l, cn_r, Option.toList, List.cons_append, List.nil_append, if_true, if_false, true_and, and_true, or_false, false_or, true_or, or_true, not_false_eq_true, not_true_eq_false, and_false, false_and, zb_0, zb_1, q10, k0, k8, k13, p1, p2, p3, p4, p5, p6, p7, p8, p9, q1, q2, q3, q4, e2, e3, e4, t1, t2, t3, t4, t5, t6, t7, t9, t10, t11, t12, t14, t15, t16, le8 h8, a1, a2, a3, a4, c1, c2, c3, r29, e0, rX_n, x1, q10, g28_28, g28_29, g28_39, g28_52, g28_65, g28_68, g28_77, g28_87, g28_100]
        · rw [if_neg (fun z => c2 z.1.2), if_pos ⟨fun z => c2 z.2, c3⟩]
          exact x2
end Ct
