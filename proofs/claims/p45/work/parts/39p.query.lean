/-! The class's queries. -/
theorem mx0 (x : Int32) : (if nQ 0 < x then x else nQ 0) = if x < nQ 0 then nQ 0 else x := by
  by_cases h1 : nQ 0 < x
  · rw [if_pos h1, if_neg (fun h2 => by
      rw [Int32.lt_iff_toInt_lt] at h1 h2
      omega)]
  · by_cases h2 : x < nQ 0
    · rw [if_neg h1, if_pos h2]
    · rw [if_neg h1, if_neg h2]
      apply Int32.toInt_inj.mp
      rw [Int32.lt_iff_toInt_lt] at h1 h2
      omega
theorem k2 {a r : Nat} (hr : r ≤ 1) : (2 * a + r) / 2 = a ∧ 2 * a + r - (2 * a + r) / 2 * 2 = r := by omega
theorem lt_sub {s : Nat} {u : Int32} (hs : s ≤ 100000) (h : nQ s < u) : ¬ nQ 0 < nQ s - u := by
  rw [Int32.lt_iff_toInt_lt, nQ_int (by omega)] at h
  rw [Int32.lt_iff_toInt_lt, Int32.toInt_sub, nQ_int (by omega), nQ_int (by omega)]
  have := u.toInt_lt
  rw [Int.bmod_eq_of_le (by omega) (by omega)]
  omega
theorem c25 {σ : Mem} {b : Nat} {d : Nat → Nat → Int32} {f U : Nat → Int32} (h : ShS σ b) (hR : RlC d f U) {k s z : Nat} (hk : k < 18) (hs : s ≤ 100000) (hz : z ≤ 100000) (es : f (245 + k) = nQ s) (ez : f (263 + k) = nQ z) (hr : ¬ f (281 + k) = -1 → f (245 + k) < U k) : DoM 25 [.ref b, .int (nQ k)] (sB 17 σ b d) = some (.inl (some (.int (if ovF f (f (281 + k)) (f 0) (k - k / 2 * 2) then nQ 0 else if f (263 + k) = nQ 0 then -2 else if f (263 + k) - U k < nQ 0 then nQ 0 else f (263 + k) - U k))), sB 17 σ b d) := by
  obtain ⟨h8, ⟨k0, k8, k13⟩, ⟨p1, p2, p3, p4, p5, p6, p7, p8, p9⟩, ⟨q1, q2, q3, q4⟩, ⟨e2, e3, e4⟩, ⟨t1, t2, t3, t4, t5, t6, t7⟩, ⟨t9, t10, t11, t12⟩, ⟨t14, t15, t16⟩⟩ := id h
  obtain ⟨a1, a2, a3, a4⟩ := hR.2.1 k hk
  rw [es] at a2
  rw [ez] at a3
  rw [ez]
  have r31 := c31 h hR hk
  refine (g25_0).trans ?_
  rcases Classical.propComplete (ovF f (f (281 + k)) (f 0) (k - k / 2 * 2)) with w1 | w1
  · have hr := hr (of_eq_true w1).1
    rw [es] at hr
    have n1 := eq_false (lt_sub hs hr)
    have ez0 : (nQ z = nQ 0) = (z = 0) := nQ_eq (by omega) (by decide)
    rcases Classical.propComplete (z = 0) with w2 | w2
    · rcases Classical.propComplete (s < 100000) with w3 | w3
      · simp (disch := omega) only [aOk, eq_self, tk_sB, pr_sB, tk_wr, pr_wr, nQ_nat, nQ_neg, nQ_add, nQ_mul, nQ_lt, leF, ltT, ltF, rd_sB, rd_sB0, wr_sB, wr_sB0, cn_l, cn_r, Option.toList, List.cons_append, List.nil_append, if_true, if_false, true_and, and_true, or_false, false_or, true_or, or_true, not_false_eq_true, not_true_eq_false, and_false, false_and, zb_0, zb_1, q10, k0, k8, k13, p1, p2, p3, p4, p5, p6, p7, p8, p9, q1, q2, q3, q4, e2, e3, e4, t1, t2, t3, t4, t5, t6, t7, t9, t10, t11, t12, t14, t15, t16, le8 h8, a1, a2, a3, r31, w1, ez0, w2, w3, n1, q10, g25_5, g25_22, g25_41, g25_56]
      · have e5 : s = 100000 := by have := of_eq_false w3; omega
        rw [e5] at n1
        simp (disch := omega) only [aOk, eq_self, tk_sB, pr_sB, tk_wr, pr_wr, nQ_nat, nQ_neg, nQ_add, nQ_mul, nQ_lt, leF, ltT, ltF, rd_sB, rd_sB0, wr_sB, wr_sB0, cn_l, cn_r, Option.toList, List.cons_append, List.nil_append, if_true, if_false, true_and, and_true, or_false, false_or, true_or, or_true, not_false_eq_true, not_true_eq_false, and_false, false_and, zb_0, zb_1, q10, k0, k8, k13, p1, p2, p3, p4, p5, p6, p7, p8, p9, q1, q2, q3, q4, e2, e3, e4, t1, t2, t3, t4, t5, t6, t7, t9, t10, t11, t12, t14, t15, t16, le8 h8, a1, a2, a3, r31, w1, ez0, w2, w3, n1, q10, g25_5, g25_22, g25_41, g25_56]
    · rcases Classical.propComplete (s < z) with w3 | w3
      · simp (disch := omega) only [aOk, eq_self, tk_sB, pr_sB, tk_wr, pr_wr, nQ_nat, nQ_neg, nQ_add, nQ_mul, nQ_lt, leF, ltT, ltF, rd_sB, rd_sB0, wr_sB, wr_sB0, cn_l, cn_r, Option.toList, List.cons_append, List.nil_append, if_true, if_false, true_and, and_true, or_false, false_or, true_or, or_true, not_false_eq_true, not_true_eq_false, and_false, false_and, zb_0, zb_1, q10, k0, k8, k13, p1, p2, p3, p4, p5, p6, p7, p8, p9, q1, q2, q3, q4, e2, e3, e4, t1, t2, t3, t4, t5, t6, t7, t9, t10, t11, t12, t14, t15, t16, le8 h8, a1, a2, a3, r31, w1, ez0, w2, w3, n1, q10, g25_5, g25_22, g25_41, g25_56]
      · have hz2 : nQ z < U k := by
          rw [Int32.lt_iff_toInt_lt, nQ_int (by omega)] at hr ⊢
          have := of_eq_false w3
          omega
        have n2 := eq_false (lt_sub hz hz2)
        simp (disch := omega) only [aOk, eq_self, tk_sB, pr_sB, tk_wr, pr_wr, nQ_nat, nQ_neg, nQ_add, nQ_mul, nQ_lt, leF, ltT, ltF, rd_sB, rd_sB0, wr_sB, wr_sB0, cn_l, cn_r, Option.toList, List.cons_append, List.nil_append, if_true, if_false, true_and, and_true, or_false, false_or, true_or, or_true, not_false_eq_true, not_true_eq_false, and_false, false_and, zb_0, zb_1, q10, k0, k8, k13, p1, p2, p3, p4, p5, p6, p7, p8, p9, q1, q2, q3, q4, e2, e3, e4, t1, t2, t3, t4, t5, t6, t7, t9, t10, t11, t12, t14, t15, t16, le8 h8, a1, a2, a3, r31, w1, ez0, w2, w3, n1, n2, q10, g25_5, g25_22, g25_41, g25_56]
  · by_cases w2 : nQ z = nQ 0
    · simp (disch := omega) only [aOk, eq_self, tk_sB, pr_sB, tk_wr, pr_wr, nQ_nat, nQ_neg, nQ_add, nQ_mul, nQ_lt, leF, ltT, ltF, rd_sB, rd_sB0, wr_sB, wr_sB0, cn_l, cn_r, Option.toList, List.cons_append, List.nil_append, if_true, if_false, true_and, and_true, or_false, false_or, true_or, or_true, not_false_eq_true, not_true_eq_false, and_false, false_and, zb_0, zb_1, q10, k0, k8, k13, p1, p2, p3, p4, p5, p6, p7, p8, p9, q1, q2, q3, q4, e2, e3, e4, t1, t2, t3, t4, t5, t6, t7, t9, t10, t11, t12, t14, t15, t16, le8 h8, a1, a2, a3, r31, w1, w2, q10, g25_5, g25_22, g25_41, g25_56]
    · simp (disch := omega) only [aOk, eq_self, tk_sB, pr_sB, tk_wr, pr_wr, nQ_nat, nQ_neg, nQ_add, nQ_mul, nQ_lt, leF, ltT, ltF, rd_sB, rd_sB0, wr_sB, wr_sB0, cn_l, cn_r, Option.toList, List.cons_append, List.nil_append, if_true, if_false, true_and, and_true, or_false, false_or, true_or, or_true, not_false_eq_true, not_true_eq_false, and_false, false_and, zb_0, zb_1, q10, k0, k8, k13, p1, p2, p3, p4, p5, p6, p7, p8, p9, q1, q2, q3, q4, e2, e3, e4, t1, t2, t3, t4, t5, t6, t7, t9, t10, t11, t12, t14, t15, t16, le8 h8, a1, a2, a3, r31, w1, w2, q10, g25_5, g25_22, g25_41, g25_56]
      rw [mx0]
theorem fl_to {d : Nat → Nat → Int32} {f : Nat → Int32} {n i : Nat} (hF : FlR d f n) (hi : i < n) : ∃ j, j < n ∧ qM f j = qC d i := Lq_mem.mp (hF.2.2.2.mem_iff.mp (Lq_mem.mpr ⟨i, hi, rfl⟩))
theorem fl_fro {d : Nat → Nat → Int32} {f : Nat → Int32} {n j : Nat} (hF : FlR d f n) (hj : j < n) : ∃ i, i < n ∧ qC d i = qM f j := Lq_mem.mp (hF.2.2.2.mem_iff.mpr (Lq_mem.mpr ⟨j, hj, rfl⟩))
theorem c3 {σ : Mem} {b : Nat} {d : Nat → Nat → Int32} {f : Nat → Int32} (h : ShS σ b) (hl : LgR d f) : ∃ e, f 308 = nQ e ∧ e ≤ 12 ∧ ∀ (v : Int32) (p : Nat), ¬ v < nQ 0 → p < 4 → DoM 3 [.ref (b + 13), .int v, .int (nQ p)] (sB 17 σ b d) = some (.inl (some (.int (if v < nQ e then f (309 + 4 * v.toNatClampNeg + p) else -1))), sB 17 σ b d) := by
  obtain ⟨h8, ⟨k0, k8, k13⟩, ⟨p1, p2, p3, p4, p5, p6, p7, p8, p9⟩, ⟨q1, q2, q3, q4⟩, ⟨e2, e3, e4⟩, ⟨t1, t2, t3, t4, t5, t6, t7⟩, ⟨t9, t10, t11, t12⟩, ⟨t14, t15, t16⟩⟩ := id h
  obtain ⟨q, e, hq, he, z0, z1, f8, hE⟩ := hl
  refine ⟨e, f8, he, fun v p hv hp => ?_⟩
  refine (g3_0).trans ?_
  by_cases c1 : v < nQ e
  · obtain ⟨i, hi, rfl⟩ : ∃ i, i < e ∧ v = nQ i := by
      have h1 : ¬ v.toInt < (nQ 0).toInt := fun z => hv (Int32.lt_iff_toInt_lt.mpr z)
      rw [nQ_int (by decide)] at h1
      have h2 := Int32.lt_iff_toInt_lt.mp c1
      rw [nQ_int (by omega)] at h2
      refine ⟨v.toInt.toNat, by omega, ?_⟩
      apply Int32.toInt_inj.mp
      rw [nQ_int (by omega)]
      omega
    obtain ⟨b1, ⟨k, b2, b3, b4, b5⟩, b6⟩ := hE i hi
    have em : q + i - (q + i) / 12 * 12 = (q + i) % 12 := by omega
    have hm : (q + i) % 12 < 12 := by omega
    have n21 : (nQ 2 = nQ 1) = False := by rw [nQ_eq (by decide) (by decide)]; simp
    have n31 : (nQ 3 = nQ 1) = False := by rw [nQ_eq (by decide) (by decide)]; simp
    have n32 : (nQ 3 = nQ 2) = False := by rw [nQ_eq (by decide) (by decide)]; simp
    rw [if_pos c1]
    rcases (show p = 0 ∨ p = 1 ∨ p = 2 ∨ p = 3 by omega) with rfl | rfl | rfl | rfl <;> simp (disch := omega) only [aOk, eq_self, tk_sB, pr_sB, tk_wr, pr_wr, nQ_nat, nQ_neg, nQ_add, nQ_mul, nQ_lt, leF, ltT, ltF, rd_sB, rd_sB0, wr_sB, wr_sB0, cn_l, cn_r, Option.toList, List.cons_append, List.nil_append, if_true, if_false, true_and, and_true, or_false, false_or, true_or, or_true, not_false_eq_true, not_true_eq_false, and_false, false_and, zb_0, zb_1, q10, k0, k8, k13, p1, p2, p3, p4, p5, p6, p7, p8, p9, q1, q2, q3, q4, e2, e3, e4, t1, t2, t3, t4, t5, t6, t7, t9, t10, t11, t12, t14, t15, t16, le8 h8, z0, z1, hi, em, nQ_div, nQ_sub, b1, b3, b4, b5, b6, Nat.add_zero, q10, q20, q30, n21, n31, n32]
  · rw [if_neg c1]
    simp (disch := omega) only [aOk, eq_self, tk_sB, pr_sB, tk_wr, pr_wr, nQ_nat, nQ_neg, nQ_add, nQ_mul, nQ_lt, leF, ltT, ltF, rd_sB, rd_sB0, wr_sB, wr_sB0, cn_l, cn_r, Option.toList, List.cons_append, List.nil_append, if_true, if_false, true_and, and_true, or_false, false_or, true_or, or_true, not_false_eq_true, not_true_eq_false, and_false, false_and, zb_0, zb_1, q10, k0, k8, k13, p1, p2, p3, p4, p5, p6, p7, p8, p9, q1, q2, q3, q4, e2, e3, e4, t1, t2, t3, t4, t5, t6, t7, t9, t10, t11, t12, t14, t15, t16, le8 h8, z0, c1]
def fiF (f : Nat → Int32) (key : Int32) (w : Nat) : Nat → Int32
  | 0 => -1
  | n + 1 => if f (5 + 4 * n) = key then f (5 + 4 * n + w) else fiF f key w n
theorem fi_spec (f : Nat → Int32) (key : Int32) (w : Nat) : ∀ n, toF f n key w (fiF f key w n)
  | 0 => Or.inr ⟨rfl, fun i hi => absurd hi (Nat.not_lt_zero i)⟩
  | n + 1 => by
    unfold fiF
    by_cases c : f (5 + 4 * n) = key
    · rw [if_pos c]
      exact Or.inl ⟨n, Nat.lt_succ_self n, rfl, c⟩
    · rw [if_neg c]
      rcases fi_spec f key w n with ⟨i, hi, h1, h2⟩ | ⟨h1, h2⟩
      · exact Or.inl ⟨i, Nat.lt_succ_of_lt hi, h1, h2⟩
      · refine Or.inr ⟨h1, fun i hi => ?_⟩
        by_cases e : i = n
        · rw [e]; exact c
        · exact h2 i (by omega)
section Qu
variable {τ : Mem} {f : Nat → Int32} {H : Nat → Nat → Int32} {c n : Nat}
theorem q61 (h : RV τ f H c) (hn : f 4 = nQ n) (h60 : n ≤ 60) {a r : Nat} (ha : a ≤ 8) (hr : r ≤ 1) : DoM 61 [.ref 8, .int (nQ a), .int (nQ r)] τ = some (.inl (some (.int (usF (f) (nQ a) r n))), τ) := by
  obtain ⟨hR, hF, hI⟩ := RV_n h hn h60
  have w1 : tkM τ 8 = (1, 4) := h.1.1.1.1
  have w2 : prM τ 8 0 = 9 := h.1.1.1.2.1
  have hs : ShS τ 9 := h.1.1.2.1.1
  have hx : inP (nQ a) (nQ 0) (nQ 8) ∧ inP (nQ r) (nQ 0) (nQ 1) := ⟨in_Q ha (by decide), in_Q hr (by decide)⟩
  have e : rdM τ (9 + 3) (2 * a + r) = usF (f) (nQ a) r n := by
    have := (hR.2.1 (2 * a + r) (by omega)).1
    dsimp only at this
    rw [(k2 hr).1, show 2 * a + r - a * 2 = r by omega] at this
    exact this
  refine (g61_0).trans ?_
  simp (disch := omega) only [aOk, eq_self, tk_sB, pr_sB, tk_wr, pr_wr, nQ_nat, nQ_neg, nQ_add, nQ_mul, nQ_lt, leF, ltT, ltF, rd_sB, rd_sB0, wr_sB, wr_sB0, cn_l, cn_r, Option.toList, List.cons_append, List.nil_append, if_true, if_false, true_and, and_true, or_false, false_or, true_or, or_true, not_false_eq_true, not_true_eq_false, and_false, false_and, zb_0, zb_1, q10, w1, w2, hs.2.1.1, hs.2.1.2.1, hs.2.1.2.2, hs.2.2.1.1, hs.2.2.1.2.1, hs.2.2.1.2.2.1, hs.2.2.1.2.2.2.1, hs.2.2.1.2.2.2.2.1, hs.2.2.1.2.2.2.2.2.1, hs.2.2.1.2.2.2.2.2.2.1, hs.2.2.1.2.2.2.2.2.2.2.1, hs.2.2.1.2.2.2.2.2.2.2.2, hs.2.2.2.1.1, hs.2.2.2.1.2.1, hs.2.2.2.1.2.2.1, hs.2.2.2.1.2.2.2, hs.2.2.2.2.1.1, hs.2.2.2.2.1.2.1, hs.2.2.2.2.1.2.2, hs.2.2.2.2.2.1.1, hs.2.2.2.2.2.1.2.1, hs.2.2.2.2.2.1.2.2.1, hs.2.2.2.2.2.1.2.2.2.1, hs.2.2.2.2.2.1.2.2.2.2.1, hs.2.2.2.2.2.1.2.2.2.2.2.1, hs.2.2.2.2.2.1.2.2.2.2.2.2, hs.2.2.2.2.2.2.1.1, hs.2.2.2.2.2.2.1.2.1, hs.2.2.2.2.2.2.1.2.2.1, hs.2.2.2.2.2.2.1.2.2.2, hs.2.2.2.2.2.2.2.1, hs.2.2.2.2.2.2.2.2.1, hs.2.2.2.2.2.2.2.2.2, le8 hs.1, c91, eq_true hx, e, g61_12]
theorem q62 (h : RV τ f H c) (hn : f 4 = nQ n) (h60 : n ≤ 60) {a r : Nat} (ha : a ≤ 8) (hr : r ≤ 1) : DoM 62 [.ref 8, .int (nQ a), .int (nQ r)] τ = some (.inl (some (.int (usF (f) (nQ a) r n))), τ) := by
  obtain ⟨hR, hF, hI⟩ := RV_n h hn h60
  have w1 : tkM τ 8 = (1, 4) := h.1.1.1.1
  have w2 : prM τ 8 0 = 9 := h.1.1.1.2.1
  have hs : ShS τ 9 := h.1.1.2.1.1
  have hx : inP (nQ a) (nQ 0) (nQ 8) ∧ inP (nQ r) (nQ 0) (nQ 1) := ⟨in_Q ha (by decide), in_Q hr (by decide)⟩
  have e := c10 (d := rw_ τ 9) hs hF.1 hF.2.2.1 (nQ a) (r := r) (by omega)
  rw [sB_rw, sm_perm _ hF.2.2.2, ← us_sm] at e
  refine (g62_0).trans ?_
  simp (disch := omega) only [aOk, eq_self, tk_sB, pr_sB, tk_wr, pr_wr, nQ_nat, nQ_neg, nQ_add, nQ_mul, nQ_lt, leF, ltT, ltF, rd_sB, rd_sB0, wr_sB, wr_sB0, cn_l, cn_r, Option.toList, List.cons_append, List.nil_append, if_true, if_false, true_and, and_true, or_false, false_or, true_or, or_true, not_false_eq_true, not_true_eq_false, and_false, false_and, zb_0, zb_1, q10, w1, w2, hs.2.1.1, hs.2.1.2.1, hs.2.1.2.2, hs.2.2.1.1, hs.2.2.1.2.1, hs.2.2.1.2.2.1, hs.2.2.1.2.2.2.1, hs.2.2.1.2.2.2.2.1, hs.2.2.1.2.2.2.2.2.1, hs.2.2.1.2.2.2.2.2.2.1, hs.2.2.1.2.2.2.2.2.2.2.1, hs.2.2.1.2.2.2.2.2.2.2.2, hs.2.2.2.1.1, hs.2.2.2.1.2.1, hs.2.2.2.1.2.2.1, hs.2.2.2.1.2.2.2, hs.2.2.2.2.1.1, hs.2.2.2.2.1.2.1, hs.2.2.2.2.1.2.2, hs.2.2.2.2.2.1.1, hs.2.2.2.2.2.1.2.1, hs.2.2.2.2.2.1.2.2.1, hs.2.2.2.2.2.1.2.2.2.1, hs.2.2.2.2.2.1.2.2.2.2.1, hs.2.2.2.2.2.1.2.2.2.2.2.1, hs.2.2.2.2.2.1.2.2.2.2.2.2, hs.2.2.2.2.2.2.1.1, hs.2.2.2.2.2.2.1.2.1, hs.2.2.2.2.2.2.1.2.2.1, hs.2.2.2.2.2.2.1.2.2.2, hs.2.2.2.2.2.2.2.1, hs.2.2.2.2.2.2.2.2.1, hs.2.2.2.2.2.2.2.2.2, le8 hs.1, c91, eq_true hx, e, g62_5, g62_18]
theorem q63 (h : RV τ f H c) (hn : f 4 = nQ n) (h60 : n ≤ 60) {a r : Nat} (ha : a ≤ 8) (hr : r ≤ 1) : DoM 63 [.ref 8, .int (nQ a), .int (nQ r)] τ = some (.inl (some (.int (f (245 + 2 * a + r)))), τ) := by
  obtain ⟨hR, hF, hI⟩ := RV_n h hn h60
  have w1 : tkM τ 8 = (1, 4) := h.1.1.1.1
  have w2 : prM τ 8 0 = 9 := h.1.1.1.2.1
  have hs : ShS τ 9 := h.1.1.2.1.1
  have hx : inP (nQ a) (nQ 0) (nQ 8) ∧ inP (nQ r) (nQ 0) (nQ 1) := ⟨in_Q ha (by decide), in_Q hr (by decide)⟩
  have e : rdM τ (9 + 4) (2 * a + r) = f (245 + 2 * a + r) := by
    have := (hR.2.1 (2 * a + r) (by omega)).2.1
    rw [show 245 + (2 * a + r) = 245 + 2 * a + r by omega] at this
    exact this
  refine (g63_0).trans ?_
  simp (disch := omega) only [aOk, eq_self, tk_sB, pr_sB, tk_wr, pr_wr, nQ_nat, nQ_neg, nQ_add, nQ_mul, nQ_lt, leF, ltT, ltF, rd_sB, rd_sB0, wr_sB, wr_sB0, cn_l, cn_r, Option.toList, List.cons_append, List.nil_append, if_true, if_false, true_and, and_true, or_false, false_or, true_or, or_true, not_false_eq_true, not_true_eq_false, and_false, false_and, zb_0, zb_1, q10, w1, w2, hs.2.1.1, hs.2.1.2.1, hs.2.1.2.2, hs.2.2.1.1, hs.2.2.1.2.1, hs.2.2.1.2.2.1, hs.2.2.1.2.2.2.1, hs.2.2.1.2.2.2.2.1, hs.2.2.1.2.2.2.2.2.1, hs.2.2.1.2.2.2.2.2.2.1, hs.2.2.1.2.2.2.2.2.2.2.1, hs.2.2.1.2.2.2.2.2.2.2.2, hs.2.2.2.1.1, hs.2.2.2.1.2.1, hs.2.2.2.1.2.2.1, hs.2.2.2.1.2.2.2, hs.2.2.2.2.1.1, hs.2.2.2.2.1.2.1, hs.2.2.2.2.1.2.2, hs.2.2.2.2.2.1.1, hs.2.2.2.2.2.1.2.1, hs.2.2.2.2.2.1.2.2.1, hs.2.2.2.2.2.1.2.2.2.1, hs.2.2.2.2.2.1.2.2.2.2.1, hs.2.2.2.2.2.1.2.2.2.2.2.1, hs.2.2.2.2.2.1.2.2.2.2.2.2, hs.2.2.2.2.2.2.1.1, hs.2.2.2.2.2.2.1.2.1, hs.2.2.2.2.2.2.1.2.2.1, hs.2.2.2.2.2.2.1.2.2.2, hs.2.2.2.2.2.2.2.1, hs.2.2.2.2.2.2.2.2.1, hs.2.2.2.2.2.2.2.2.2, le8 hs.1, c91, eq_true hx, e, g63_12]
theorem q64 (h : RV τ f H c) (hn : f 4 = nQ n) (h60 : n ≤ 60) {a r : Nat} (ha : a ≤ 8) (hr : r ≤ 1) : DoM 64 [.ref 8, .int (nQ a), .int (nQ r)] τ = some (.inl (some (.int (f (263 + 2 * a + r)))), τ) := by
  obtain ⟨hR, hF, hI⟩ := RV_n h hn h60
  have w1 : tkM τ 8 = (1, 4) := h.1.1.1.1
  have w2 : prM τ 8 0 = 9 := h.1.1.1.2.1
  have hs : ShS τ 9 := h.1.1.2.1.1
  have hx : inP (nQ a) (nQ 0) (nQ 8) ∧ inP (nQ r) (nQ 0) (nQ 1) := ⟨in_Q ha (by decide), in_Q hr (by decide)⟩
  have e : rdM τ (9 + 5) (2 * a + r) = f (263 + 2 * a + r) := by
    have := (hR.2.1 (2 * a + r) (by omega)).2.2.1
    rw [show 263 + (2 * a + r) = 263 + 2 * a + r by omega] at this
    exact this
  refine (g64_0).trans ?_
  simp (disch := omega) only [aOk, eq_self, tk_sB, pr_sB, tk_wr, pr_wr, nQ_nat, nQ_neg, nQ_add, nQ_mul, nQ_lt, leF, ltT, ltF, rd_sB, rd_sB0, wr_sB, wr_sB0, cn_l, cn_r, Option.toList, List.cons_append, List.nil_append, if_true, if_false, true_and, and_true, or_false, false_or, true_or, or_true, not_false_eq_true, not_true_eq_false, and_false, false_and, zb_0, zb_1, q10, w1, w2, hs.2.1.1, hs.2.1.2.1, hs.2.1.2.2, hs.2.2.1.1, hs.2.2.1.2.1, hs.2.2.1.2.2.1, hs.2.2.1.2.2.2.1, hs.2.2.1.2.2.2.2.1, hs.2.2.1.2.2.2.2.2.1, hs.2.2.1.2.2.2.2.2.2.1, hs.2.2.1.2.2.2.2.2.2.2.1, hs.2.2.1.2.2.2.2.2.2.2.2, hs.2.2.2.1.1, hs.2.2.2.1.2.1, hs.2.2.2.1.2.2.1, hs.2.2.2.1.2.2.2, hs.2.2.2.2.1.1, hs.2.2.2.2.1.2.1, hs.2.2.2.2.1.2.2, hs.2.2.2.2.2.1.1, hs.2.2.2.2.2.1.2.1, hs.2.2.2.2.2.1.2.2.1, hs.2.2.2.2.2.1.2.2.2.1, hs.2.2.2.2.2.1.2.2.2.2.1, hs.2.2.2.2.2.1.2.2.2.2.2.1, hs.2.2.2.2.2.1.2.2.2.2.2.2, hs.2.2.2.2.2.2.1.1, hs.2.2.2.2.2.2.1.2.1, hs.2.2.2.2.2.2.1.2.2.1, hs.2.2.2.2.2.2.1.2.2.2, hs.2.2.2.2.2.2.2.1, hs.2.2.2.2.2.2.2.2.1, hs.2.2.2.2.2.2.2.2.2, le8 hs.1, c91, eq_true hx, e, g64_12]
theorem q65 (h : RV τ f H c) (hn : f 4 = nQ n) (h60 : n ≤ 60) {a r : Nat} (ha : a ≤ 8) (hr : r ≤ 1) : DoM 65 [.ref 8, .int (nQ a), .int (nQ r)] τ = some (.inl (some (.int (f (281 + 2 * a + r)))), τ) := by
  obtain ⟨hR, hF, hI⟩ := RV_n h hn h60
  have w1 : tkM τ 8 = (1, 4) := h.1.1.1.1
  have w2 : prM τ 8 0 = 9 := h.1.1.1.2.1
  have hs : ShS τ 9 := h.1.1.2.1.1
  have hx : inP (nQ a) (nQ 0) (nQ 8) ∧ inP (nQ r) (nQ 0) (nQ 1) := ⟨in_Q ha (by decide), in_Q hr (by decide)⟩
  have e : rdM τ (9 + 6) (2 * a + r) = f (281 + 2 * a + r) := by
    have := (hR.2.1 (2 * a + r) (by omega)).2.2.2
    rw [show 281 + (2 * a + r) = 281 + 2 * a + r by omega] at this
    exact this
  refine (g65_0).trans ?_
  simp (disch := omega) only [aOk, eq_self, tk_sB, pr_sB, tk_wr, pr_wr, nQ_nat, nQ_neg, nQ_add, nQ_mul, nQ_lt, leF, ltT, ltF, rd_sB, rd_sB0, wr_sB, wr_sB0, cn_l, cn_r, Option.toList, List.cons_append, List.nil_append, if_true, if_false, true_and, and_true, or_false, false_or, true_or, or_true, not_false_eq_true, not_true_eq_false, and_false, false_and, zb_0, zb_1, q10, w1, w2, hs.2.1.1, hs.2.1.2.1, hs.2.1.2.2, hs.2.2.1.1, hs.2.2.1.2.1, hs.2.2.1.2.2.1, hs.2.2.1.2.2.2.1, hs.2.2.1.2.2.2.2.1, hs.2.2.1.2.2.2.2.2.1, hs.2.2.1.2.2.2.2.2.2.1, hs.2.2.1.2.2.2.2.2.2.2.1, hs.2.2.1.2.2.2.2.2.2.2.2, hs.2.2.2.1.1, hs.2.2.2.1.2.1, hs.2.2.2.1.2.2.1, hs.2.2.2.1.2.2.2, hs.2.2.2.2.1.1, hs.2.2.2.2.1.2.1, hs.2.2.2.2.1.2.2, hs.2.2.2.2.2.1.1, hs.2.2.2.2.2.1.2.1, hs.2.2.2.2.2.1.2.2.1, hs.2.2.2.2.2.1.2.2.2.1, hs.2.2.2.2.2.1.2.2.2.2.1, hs.2.2.2.2.2.1.2.2.2.2.2.1, hs.2.2.2.2.2.1.2.2.2.2.2.2, hs.2.2.2.2.2.2.1.1, hs.2.2.2.2.2.2.1.2.1, hs.2.2.2.2.2.2.1.2.2.1, hs.2.2.2.2.2.2.1.2.2.2, hs.2.2.2.2.2.2.2.1, hs.2.2.2.2.2.2.2.2.1, hs.2.2.2.2.2.2.2.2.2, le8 hs.1, c91, eq_true hx, e, g65_12]
theorem q66 (h : RV τ f H c) (hn : f 4 = nQ n) (h60 : n ≤ 60) {a r : Nat} (ha : a ≤ 8) (hr : r ≤ 1) : DoM 66 [.ref 8, .int (nQ a), .int (nQ r)] τ = some (.inl (some (.int (glF (f) a r))), τ) := by
  obtain ⟨hR, hF, hI⟩ := RV_n h hn h60
  have w1 : tkM τ 8 = (1, 4) := h.1.1.1.1
  have w2 : prM τ 8 0 = 9 := h.1.1.1.2.1
  have hs : ShS τ 9 := h.1.1.2.1.1
  have hx : inP (nQ a) (nQ 0) (nQ 8) ∧ inP (nQ r) (nQ 0) (nQ 1) := ⟨in_Q ha (by decide), in_Q hr (by decide)⟩
  have hk : 2 * a + r < 18 := by omega
  have r29 := c29 (d := rw_ τ 9) hs hR hk
  have r30 := c30 (d := rw_ τ 9) hs hR hk
  rw [sB_rw] at r29 r30
  have e1 : rdM τ (9 + 1) r = f (1 + r) := hR.1.2.1 r (by omega)
  refine (g66_0).trans ?_
  unfold glF
  rw [show 281 + 2 * a + r = 281 + (2 * a + r) by omega]
  by_cases c1 : f (281 + (2 * a + r)) = -1
  · simp (disch := omega) only [aOk, eq_self, tk_sB, pr_sB, tk_wr, pr_wr, nQ_nat, nQ_neg, nQ_add, nQ_mul, nQ_lt, leF, ltT, ltF, rd_sB, rd_sB0, wr_sB, wr_sB0, cn_l, cn_r, Option.toList, List.cons_append, List.nil_append, if_true, if_false, true_and, and_true, or_false, false_or, true_or, or_true, not_false_eq_true, not_true_eq_false, and_false, false_and, zb_0, zb_1, q10, w1, w2, hs.2.1.1, hs.2.1.2.1, hs.2.1.2.2, hs.2.2.1.1, hs.2.2.1.2.1, hs.2.2.1.2.2.1, hs.2.2.1.2.2.2.1, hs.2.2.1.2.2.2.2.1, hs.2.2.1.2.2.2.2.2.1, hs.2.2.1.2.2.2.2.2.2.1, hs.2.2.1.2.2.2.2.2.2.2.1, hs.2.2.1.2.2.2.2.2.2.2.2, hs.2.2.2.1.1, hs.2.2.2.1.2.1, hs.2.2.2.1.2.2.1, hs.2.2.2.1.2.2.2, hs.2.2.2.2.1.1, hs.2.2.2.2.1.2.1, hs.2.2.2.2.1.2.2, hs.2.2.2.2.2.1.1, hs.2.2.2.2.2.1.2.1, hs.2.2.2.2.2.1.2.2.1, hs.2.2.2.2.2.1.2.2.2.1, hs.2.2.2.2.2.1.2.2.2.2.1, hs.2.2.2.2.2.1.2.2.2.2.2.1, hs.2.2.2.2.2.1.2.2.2.2.2.2, hs.2.2.2.2.2.2.1.1, hs.2.2.2.2.2.2.1.2.1, hs.2.2.2.2.2.2.1.2.2.1, hs.2.2.2.2.2.2.1.2.2.2, hs.2.2.2.2.2.2.2.1, hs.2.2.2.2.2.2.2.2.1, hs.2.2.2.2.2.2.2.2.2, le8 hs.1, c91, eq_true hx, r29, c1, g66_5, g66_14, g66_37]
  · simp (disch := omega) only [aOk, eq_self, tk_sB, pr_sB, tk_wr, pr_wr, nQ_nat, nQ_neg, nQ_add, nQ_mul, nQ_lt, leF, ltT, ltF, rd_sB, rd_sB0, wr_sB, wr_sB0, cn_l, cn_r, Option.toList, List.cons_append, List.nil_append, if_true, if_false, true_and, and_true, or_false, false_or, true_or, or_true, not_false_eq_true, not_true_eq_false, and_false, false_and, zb_0, zb_1, q10, w1, w2, hs.2.1.1, hs.2.1.2.1, hs.2.1.2.2, hs.2.2.1.1, hs.2.2.1.2.1, hs.2.2.1.2.2.1, hs.2.2.1.2.2.2.1, hs.2.2.1.2.2.2.2.1, hs.2.2.1.2.2.2.2.2.1, hs.2.2.1.2.2.2.2.2.2.1, hs.2.2.1.2.2.2.2.2.2.2.1, hs.2.2.1.2.2.2.2.2.2.2.2, hs.2.2.2.1.1, hs.2.2.2.1.2.1, hs.2.2.2.1.2.2.1, hs.2.2.2.1.2.2.2, hs.2.2.2.2.1.1, hs.2.2.2.2.1.2.1, hs.2.2.2.2.1.2.2, hs.2.2.2.2.2.1.1, hs.2.2.2.2.2.1.2.1, hs.2.2.2.2.2.1.2.2.1, hs.2.2.2.2.2.1.2.2.2.1, hs.2.2.2.2.2.1.2.2.2.2.1, hs.2.2.2.2.2.1.2.2.2.2.2.1, hs.2.2.2.2.2.1.2.2.2.2.2.2, hs.2.2.2.2.2.2.1.1, hs.2.2.2.2.2.2.1.2.1, hs.2.2.2.2.2.2.1.2.2.1, hs.2.2.2.2.2.2.1.2.2.2, hs.2.2.2.2.2.2.2.1, hs.2.2.2.2.2.2.2.2.1, hs.2.2.2.2.2.2.2.2.2, le8 hs.1, c91, eq_true hx, r29, r30, e1, c1, q10, g66_5, g66_14, g66_37]
    rw [mx0]
theorem q67 (h : RV τ f H c) (hn : f 4 = nQ n) (h60 : n ≤ 60) {a r : Nat} (ha : a ≤ 8) (hr : r ≤ 1) : DoM 67 [.ref 8, .int (nQ a), .int (nQ r)] τ = some (.inl (some (.int (avF (f) n a r))), τ) := by
  obtain ⟨hR, hF, hI⟩ := RV_n h hn h60
  have w1 : tkM τ 8 = (1, 4) := h.1.1.1.1
  have w2 : prM τ 8 0 = 9 := h.1.1.1.2.1
  have hs : ShS τ 9 := h.1.1.2.1.1
  have hx : inP (nQ a) (nQ 0) (nQ 8) ∧ inP (nQ r) (nQ 0) (nQ 1) := ⟨in_Q ha (by decide), in_Q hr (by decide)⟩
  have hk : 2 * a + r < 18 := by omega
  obtain ⟨s, z, hs1, hz1, es, ez⟩ := hI.1.2.2.2 (2 * a + r) hk
  have r25 := c25 (d := rw_ τ 9) hs hR hk hs1 hz1 es ez (fun z => (hI.2 (2 * a + r) hk z).2)
  rw [sB_rw] at r25
  rw [(k2 hr).1, show 2 * a + r - a * 2 = r by omega] at r25
  refine (g67_0).trans ?_
  unfold avF
  simp (disch := omega) only [aOk, eq_self, tk_sB, pr_sB, tk_wr, pr_wr, nQ_nat, nQ_neg, nQ_add, nQ_mul, nQ_lt, leF, ltT, ltF, rd_sB, rd_sB0, wr_sB, wr_sB0, cn_l, cn_r, Option.toList, List.cons_append, List.nil_append, if_true, if_false, true_and, and_true, or_false, false_or, true_or, or_true, not_false_eq_true, not_true_eq_false, and_false, false_and, zb_0, zb_1, q10, w1, w2, hs.2.1.1, hs.2.1.2.1, hs.2.1.2.2, hs.2.2.1.1, hs.2.2.1.2.1, hs.2.2.1.2.2.1, hs.2.2.1.2.2.2.1, hs.2.2.1.2.2.2.2.1, hs.2.2.1.2.2.2.2.2.1, hs.2.2.1.2.2.2.2.2.2.1, hs.2.2.1.2.2.2.2.2.2.2.1, hs.2.2.1.2.2.2.2.2.2.2.2, hs.2.2.2.1.1, hs.2.2.2.1.2.1, hs.2.2.2.1.2.2.1, hs.2.2.2.1.2.2.2, hs.2.2.2.2.1.1, hs.2.2.2.2.1.2.1, hs.2.2.2.2.1.2.2, hs.2.2.2.2.2.1.1, hs.2.2.2.2.2.1.2.1, hs.2.2.2.2.2.1.2.2.1, hs.2.2.2.2.2.1.2.2.2.1, hs.2.2.2.2.2.1.2.2.2.2.1, hs.2.2.2.2.2.1.2.2.2.2.2.1, hs.2.2.2.2.2.1.2.2.2.2.2.2, hs.2.2.2.2.2.2.1.1, hs.2.2.2.2.2.2.1.2.1, hs.2.2.2.2.2.2.1.2.2.1, hs.2.2.2.2.2.2.1.2.2.2, hs.2.2.2.2.2.2.2.1, hs.2.2.2.2.2.2.2.2.1, hs.2.2.2.2.2.2.2.2.2, le8 hs.1, c91, eq_true hx, r25, g67_9, g67_12]
theorem q68 (h : RV τ f H c) (hn : f 4 = nQ n) (h60 : n ≤ 60) {a : Nat} (ha : a ≤ 8) : DoM 68 [.ref 8, .int (nQ a)] τ = some (.inl (some (.int (f (299 + a)))), τ) := by
  obtain ⟨hR, hF, hI⟩ := RV_n h hn h60
  have w1 : tkM τ 8 = (1, 4) := h.1.1.1.1
  have w2 : prM τ 8 0 = 9 := h.1.1.1.2.1
  have hs : ShS τ 9 := h.1.1.2.1.1
  have hx : inP (nQ a) (nQ 0) (nQ 8) := in_Q ha (by decide)
  have e : rdM τ (9 + 7) a = f (299 + a) := hR.2.2.1 a (by omega)
  refine (g68_0).trans ?_
  simp (disch := omega) only [aOk, eq_self, tk_sB, pr_sB, tk_wr, pr_wr, nQ_nat, nQ_neg, nQ_add, nQ_mul, nQ_lt, leF, ltT, ltF, rd_sB, rd_sB0, wr_sB, wr_sB0, cn_l, cn_r, Option.toList, List.cons_append, List.nil_append, if_true, if_false, true_and, and_true, or_false, false_or, true_or, or_true, not_false_eq_true, not_true_eq_false, and_false, false_and, zb_0, zb_1, q10, w1, w2, hs.2.1.1, hs.2.1.2.1, hs.2.1.2.2, hs.2.2.1.1, hs.2.2.1.2.1, hs.2.2.1.2.2.1, hs.2.2.1.2.2.2.1, hs.2.2.1.2.2.2.2.1, hs.2.2.1.2.2.2.2.2.1, hs.2.2.1.2.2.2.2.2.2.1, hs.2.2.1.2.2.2.2.2.2.2.1, hs.2.2.1.2.2.2.2.2.2.2.2, hs.2.2.2.1.1, hs.2.2.2.1.2.1, hs.2.2.2.1.2.2.1, hs.2.2.2.1.2.2.2, hs.2.2.2.2.1.1, hs.2.2.2.2.1.2.1, hs.2.2.2.2.1.2.2, hs.2.2.2.2.2.1.1, hs.2.2.2.2.2.1.2.1, hs.2.2.2.2.2.1.2.2.1, hs.2.2.2.2.2.1.2.2.2.1, hs.2.2.2.2.2.1.2.2.2.2.1, hs.2.2.2.2.2.1.2.2.2.2.2.1, hs.2.2.2.2.2.1.2.2.2.2.2.2, hs.2.2.2.2.2.2.1.1, hs.2.2.2.2.2.2.1.2.1, hs.2.2.2.2.2.2.1.2.2.1, hs.2.2.2.2.2.2.1.2.2.2, hs.2.2.2.2.2.2.2.1, hs.2.2.2.2.2.2.2.2.1, hs.2.2.2.2.2.2.2.2.2, le8 hs.1, c89, eq_true hx, e, g68_4]
theorem q79 (h : RV τ f H c) (hn : f 4 = nQ n) (h60 : n ≤ 60) {a : Nat} (ha : a ≤ 1) : DoM 79 [.ref 8, .int (nQ a)] τ = some (.inl (some (.int (f (1 + a)))), τ) := by
  obtain ⟨hR, hF, hI⟩ := RV_n h hn h60
  have w1 : tkM τ 8 = (1, 4) := h.1.1.1.1
  have w2 : prM τ 8 0 = 9 := h.1.1.1.2.1
  have hs : ShS τ 9 := h.1.1.2.1.1
  have hx : inP (nQ a) (nQ 0) (nQ 1) := in_Q ha (by decide)
  have e : rdM τ (9 + 1) a = f (1 + a) := hR.1.2.1 a (by omega)
  refine (g79_0).trans ?_
  simp (disch := omega) only [aOk, eq_self, tk_sB, pr_sB, tk_wr, pr_wr, nQ_nat, nQ_neg, nQ_add, nQ_mul, nQ_lt, leF, ltT, ltF, rd_sB, rd_sB0, wr_sB, wr_sB0, cn_l, cn_r, Option.toList, List.cons_append, List.nil_append, if_true, if_false, true_and, and_true, or_false, false_or, true_or, or_true, not_false_eq_true, not_true_eq_false, and_false, false_and, zb_0, zb_1, q10, w1, w2, hs.2.1.1, hs.2.1.2.1, hs.2.1.2.2, hs.2.2.1.1, hs.2.2.1.2.1, hs.2.2.1.2.2.1, hs.2.2.1.2.2.2.1, hs.2.2.1.2.2.2.2.1, hs.2.2.1.2.2.2.2.2.1, hs.2.2.1.2.2.2.2.2.2.1, hs.2.2.1.2.2.2.2.2.2.2.1, hs.2.2.1.2.2.2.2.2.2.2.2, hs.2.2.2.1.1, hs.2.2.2.1.2.1, hs.2.2.2.1.2.2.1, hs.2.2.2.1.2.2.2, hs.2.2.2.2.1.1, hs.2.2.2.2.1.2.1, hs.2.2.2.2.1.2.2, hs.2.2.2.2.2.1.1, hs.2.2.2.2.2.1.2.1, hs.2.2.2.2.2.1.2.2.1, hs.2.2.2.2.2.1.2.2.2.1, hs.2.2.2.2.2.1.2.2.2.2.1, hs.2.2.2.2.2.1.2.2.2.2.2.1, hs.2.2.2.2.2.1.2.2.2.2.2.2, hs.2.2.2.2.2.2.1.1, hs.2.2.2.2.2.2.1.2.1, hs.2.2.2.2.2.2.1.2.2.1, hs.2.2.2.2.2.2.1.2.2.2, hs.2.2.2.2.2.2.2.1, hs.2.2.2.2.2.2.2.2.1, hs.2.2.2.2.2.2.2.2.2, le8 hs.1, c90, eq_true hx, e, g79_4]
theorem q80 (h : RV τ f H c) (hn : f 4 = nQ n) (h60 : n ≤ 60) {a : Nat} (ha : a ≤ 5) : DoM 80 [.ref 8, .int (nQ a)] τ = some (.inl (some (.int (if frF (f) a then nQ 1 else nQ 0))), τ) := by
  obtain ⟨hR, hF, hI⟩ := RV_n h hn h60
  have w1 : tkM τ 8 = (1, 4) := h.1.1.1.1
  have w2 : prM τ 8 0 = 9 := h.1.1.1.2.1
  have hs : ShS τ 9 := h.1.1.2.1.1
  have hx : inP (nQ a) (nQ 0) (nQ 5) := in_Q ha (by decide)
  have e : rdM τ (9 + 2) a = if frF (f) a then nQ 1 else nQ 0 := hR.1.2.2 a (by omega)
  refine (g80_0).trans ?_
  rcases Classical.propComplete (frF (f) a) with c1 | c1 <;> simp (disch := omega) only [aOk, eq_self, tk_sB, pr_sB, tk_wr, pr_wr, nQ_nat, nQ_neg, nQ_add, nQ_mul, nQ_lt, leF, ltT, ltF, rd_sB, rd_sB0, wr_sB, wr_sB0, cn_l, cn_r, Option.toList, List.cons_append, List.nil_append, if_true, if_false, true_and, and_true, or_false, false_or, true_or, or_true, not_false_eq_true, not_true_eq_false, and_false, false_and, zb_0, zb_1, q10, w1, w2, hs.2.1.1, hs.2.1.2.1, hs.2.1.2.2, hs.2.2.1.1, hs.2.2.1.2.1, hs.2.2.1.2.2.1, hs.2.2.1.2.2.2.1, hs.2.2.1.2.2.2.2.1, hs.2.2.1.2.2.2.2.2.1, hs.2.2.1.2.2.2.2.2.2.1, hs.2.2.1.2.2.2.2.2.2.2.1, hs.2.2.1.2.2.2.2.2.2.2.2, hs.2.2.2.1.1, hs.2.2.2.1.2.1, hs.2.2.2.1.2.2.1, hs.2.2.2.1.2.2.2, hs.2.2.2.2.1.1, hs.2.2.2.2.1.2.1, hs.2.2.2.2.1.2.2, hs.2.2.2.2.2.1.1, hs.2.2.2.2.2.1.2.1, hs.2.2.2.2.2.1.2.2.1, hs.2.2.2.2.2.1.2.2.2.1, hs.2.2.2.2.2.1.2.2.2.2.1, hs.2.2.2.2.2.1.2.2.2.2.2.1, hs.2.2.2.2.2.1.2.2.2.2.2.2, hs.2.2.2.2.2.2.1.1, hs.2.2.2.2.2.2.1.2.1, hs.2.2.2.2.2.2.1.2.2.1, hs.2.2.2.2.2.2.1.2.2.2, hs.2.2.2.2.2.2.2.1, hs.2.2.2.2.2.2.2.2.1, hs.2.2.2.2.2.2.2.2.2, le8 hs.1, c87, eq_true hx, e, c1, g80_4]
theorem q74 (h : RV τ f H c) (hn : f 4 = nQ n) (h60 : n ≤ 60) {a : Nat} (ha : a ≤ 9) : DoM 74 [.ref 8, .int (nQ a)] τ = some (.inl (some (.int (dzF (f) (nQ a) n))), τ) := by
  obtain ⟨hR, hF, hI⟩ := RV_n h hn h60
  have w1 : tkM τ 8 = (1, 4) := h.1.1.1.1
  have w2 : prM τ 8 0 = 9 := h.1.1.1.2.1
  have hs : ShS τ 9 := h.1.1.2.1.1
  have hx : inP (nQ a) (nQ 0) (nQ 9) := in_Q ha (by decide)
  have e := c12 (d := rw_ τ 9) hs hF.1 hF.2.2.1 (nQ a)
  rw [sB_rw, sm_perm _ hF.2.2.2, ← dz_sm] at e
  refine (g74_0).trans ?_
  simp (disch := omega) only [aOk, eq_self, tk_sB, pr_sB, tk_wr, pr_wr, nQ_nat, nQ_neg, nQ_add, nQ_mul, nQ_lt, leF, ltT, ltF, rd_sB, rd_sB0, wr_sB, wr_sB0, cn_l, cn_r, Option.toList, List.cons_append, List.nil_append, if_true, if_false, true_and, and_true, or_false, false_or, true_or, or_true, not_false_eq_true, not_true_eq_false, and_false, false_and, zb_0, zb_1, q10, w1, w2, hs.2.1.1, hs.2.1.2.1, hs.2.1.2.2, hs.2.2.1.1, hs.2.2.1.2.1, hs.2.2.1.2.2.1, hs.2.2.1.2.2.2.1, hs.2.2.1.2.2.2.2.1, hs.2.2.1.2.2.2.2.2.1, hs.2.2.1.2.2.2.2.2.2.1, hs.2.2.1.2.2.2.2.2.2.2.1, hs.2.2.1.2.2.2.2.2.2.2.2, hs.2.2.2.1.1, hs.2.2.2.1.2.1, hs.2.2.2.1.2.2.1, hs.2.2.2.1.2.2.2, hs.2.2.2.2.1.1, hs.2.2.2.2.1.2.1, hs.2.2.2.2.1.2.2, hs.2.2.2.2.2.1.1, hs.2.2.2.2.2.1.2.1, hs.2.2.2.2.2.1.2.2.1, hs.2.2.2.2.2.1.2.2.2.1, hs.2.2.2.2.2.1.2.2.2.2.1, hs.2.2.2.2.2.1.2.2.2.2.2.1, hs.2.2.2.2.2.1.2.2.2.2.2.2, hs.2.2.2.2.2.2.1.1, hs.2.2.2.2.2.2.1.2.1, hs.2.2.2.2.2.2.1.2.2.1, hs.2.2.2.2.2.2.1.2.2.2, hs.2.2.2.2.2.2.2.1, hs.2.2.2.2.2.2.2.2.1, hs.2.2.2.2.2.2.2.2.2, le8 hs.1, c92, eq_true hx, e, g74_4, g74_15]
theorem q73 (h : RV τ f H c) (hn : f 4 = nQ n) (h60 : n ≤ 60) : DoM 73 [.ref 8] τ = some (.inl (some (.int (f 4))), τ) := by
  obtain ⟨hR, hF, hI⟩ := RV_n h hn h60
  have w1 : tkM τ 8 = (1, 4) := h.1.1.1.1
  have w2 : prM τ 8 0 = 9 := h.1.1.1.2.1
  have hs : ShS τ 9 := h.1.1.2.1.1
  have e : rdM τ (9 + 8) 0 = f 4 := hF.1.trans hF.2.1.symm
  refine (g73_0).trans ?_
  simp (disch := omega) only [aOk, eq_self, tk_sB, pr_sB, tk_wr, pr_wr, nQ_nat, nQ_neg, nQ_add, nQ_mul, nQ_lt, leF, ltT, ltF, rd_sB, rd_sB0, wr_sB, wr_sB0, cn_l, cn_r, Option.toList, List.cons_append, List.nil_append, if_true, if_false, true_and, and_true, or_false, false_or, true_or, or_true, not_false_eq_true, not_true_eq_false, and_false, false_and, zb_0, zb_1, q10, w1, w2, hs.2.1.1, hs.2.1.2.1, hs.2.1.2.2, hs.2.2.1.1, hs.2.2.1.2.1, hs.2.2.1.2.2.1, hs.2.2.1.2.2.2.1, hs.2.2.1.2.2.2.2.1, hs.2.2.1.2.2.2.2.2.1, hs.2.2.1.2.2.2.2.2.2.1, hs.2.2.1.2.2.2.2.2.2.2.1, hs.2.2.1.2.2.2.2.2.2.2.2, hs.2.2.2.1.1, hs.2.2.2.1.2.1, hs.2.2.2.1.2.2.1, hs.2.2.2.1.2.2.2, hs.2.2.2.2.1.1, hs.2.2.2.2.1.2.1, hs.2.2.2.2.1.2.2, hs.2.2.2.2.2.1.1, hs.2.2.2.2.2.1.2.1, hs.2.2.2.2.2.1.2.2.1, hs.2.2.2.2.2.1.2.2.2.1, hs.2.2.2.2.2.1.2.2.2.2.1, hs.2.2.2.2.2.1.2.2.2.2.2.1, hs.2.2.2.2.2.1.2.2.2.2.2.2, hs.2.2.2.2.2.2.1.1, hs.2.2.2.2.2.2.1.2.1, hs.2.2.2.2.2.2.1.2.2.1, hs.2.2.2.2.2.2.1.2.2.2, hs.2.2.2.2.2.2.2.1, hs.2.2.2.2.2.2.2.2.1, hs.2.2.2.2.2.2.2.2.2, le8 hs.1, e]
theorem q78 (h : RV τ f H c) (hn : f 4 = nQ n) (h60 : n ≤ 60) : DoM 78 [.ref 8] τ = some (.inl (some (.int (f 0))), τ) := by
  obtain ⟨hR, hF, hI⟩ := RV_n h hn h60
  have w1 : tkM τ 8 = (1, 4) := h.1.1.1.1
  have w2 : prM τ 8 0 = 9 := h.1.1.1.2.1
  have hs : ShS τ 9 := h.1.1.2.1.1
  have e : rdM τ 9 0 = f 0 := hR.1.1
  refine (g78_0).trans ?_
  simp (disch := omega) only [aOk, eq_self, tk_sB, pr_sB, tk_wr, pr_wr, nQ_nat, nQ_neg, nQ_add, nQ_mul, nQ_lt, leF, ltT, ltF, rd_sB, rd_sB0, wr_sB, wr_sB0, cn_l, cn_r, Option.toList, List.cons_append, List.nil_append, if_true, if_false, true_and, and_true, or_false, false_or, true_or, or_true, not_false_eq_true, not_true_eq_false, and_false, false_and, zb_0, zb_1, q10, w1, w2, hs.2.1.1, hs.2.1.2.1, hs.2.1.2.2, hs.2.2.1.1, hs.2.2.1.2.1, hs.2.2.1.2.2.1, hs.2.2.1.2.2.2.1, hs.2.2.1.2.2.2.2.1, hs.2.2.1.2.2.2.2.2.1, hs.2.2.1.2.2.2.2.2.2.1, hs.2.2.1.2.2.2.2.2.2.2.1, hs.2.2.1.2.2.2.2.2.2.2.2, hs.2.2.2.1.1, hs.2.2.2.1.2.1, hs.2.2.2.1.2.2.1, hs.2.2.2.1.2.2.2, hs.2.2.2.2.1.1, hs.2.2.2.2.1.2.1, hs.2.2.2.2.1.2.2, hs.2.2.2.2.2.1.1, hs.2.2.2.2.2.1.2.1, hs.2.2.2.2.2.1.2.2.1, hs.2.2.2.2.2.1.2.2.2.1, hs.2.2.2.2.2.1.2.2.2.2.1, hs.2.2.2.2.2.1.2.2.2.2.2.1, hs.2.2.2.2.2.1.2.2.2.2.2.2, hs.2.2.2.2.2.2.1.1, hs.2.2.2.2.2.2.1.2.1, hs.2.2.2.2.2.2.1.2.2.1, hs.2.2.2.2.2.2.1.2.2.2, hs.2.2.2.2.2.2.2.1, hs.2.2.2.2.2.2.2.2.1, hs.2.2.2.2.2.2.2.2.2, le8 hs.1, e]
theorem q84 (h : RV τ f H c) (hn : f 4 = nQ n) (h60 : n ≤ 60) : DoM 84 [.ref 8] τ = some (.inl (some (.int (f 308))), τ) := by
  obtain ⟨hR, hF, hI⟩ := RV_n h hn h60
  have w1 : tkM τ 8 = (1, 4) := h.1.1.1.1
  have w2 : prM τ 8 0 = 9 := h.1.1.1.2.1
  have hs : ShS τ 9 := h.1.1.2.1.1
  have e : rdM τ (9 + 13) 0 = f 308 := by
    obtain ⟨q, e, _, _, e0, _, f8, _⟩ := hR.2.2.2
    exact e0.trans f8.symm
  refine (g84_0).trans ?_
  simp (disch := omega) only [aOk, eq_self, tk_sB, pr_sB, tk_wr, pr_wr, nQ_nat, nQ_neg, nQ_add, nQ_mul, nQ_lt, leF, ltT, ltF, rd_sB, rd_sB0, wr_sB, wr_sB0, cn_l, cn_r, Option.toList, List.cons_append, List.nil_append, if_true, if_false, true_and, and_true, or_false, false_or, true_or, or_true, not_false_eq_true, not_true_eq_false, and_false, false_and, zb_0, zb_1, q10, w1, w2, hs.2.1.1, hs.2.1.2.1, hs.2.1.2.2, hs.2.2.1.1, hs.2.2.1.2.1, hs.2.2.1.2.2.1, hs.2.2.1.2.2.2.1, hs.2.2.1.2.2.2.2.1, hs.2.2.1.2.2.2.2.2.1, hs.2.2.1.2.2.2.2.2.2.1, hs.2.2.1.2.2.2.2.2.2.2.1, hs.2.2.1.2.2.2.2.2.2.2.2, hs.2.2.2.1.1, hs.2.2.2.1.2.1, hs.2.2.2.1.2.2.1, hs.2.2.2.1.2.2.2, hs.2.2.2.2.1.1, hs.2.2.2.2.1.2.1, hs.2.2.2.2.1.2.2, hs.2.2.2.2.2.1.1, hs.2.2.2.2.2.1.2.1, hs.2.2.2.2.2.1.2.2.1, hs.2.2.2.2.2.1.2.2.2.1, hs.2.2.2.2.2.1.2.2.2.2.1, hs.2.2.2.2.2.1.2.2.2.2.2.1, hs.2.2.2.2.2.1.2.2.2.2.2.2, hs.2.2.2.2.2.2.1.1, hs.2.2.2.2.2.2.1.2.1, hs.2.2.2.2.2.2.1.2.2.1, hs.2.2.2.2.2.2.1.2.2.2, hs.2.2.2.2.2.2.2.1, hs.2.2.2.2.2.2.2.2.1, hs.2.2.2.2.2.2.2.2.2, le8 hs.1, e]
theorem q81 (h : RV τ f H c) (hn : f 4 = nQ n) (h60 : n ≤ 60) : DoM 81 [.ref 8] τ = some (.inl (some (.int (nQ (gcN (f) false 18)))), τ) := by
  obtain ⟨hR, hF, hI⟩ := RV_n h hn h60
  have w1 : tkM τ 8 = (1, 4) := h.1.1.1.1
  have w2 : prM τ 8 0 = 9 := h.1.1.1.2.1
  have hs : ShS τ 9 := h.1.1.2.1.1
  have Lp : ∀ (m i : Nat), i + m = 18 → RuM 81 (4, [some (.ref 8), some (.int (nQ (gcN (f) false i))), some (.int (nQ i))], [], 0, 0) τ = some (.inl (some (.int (nQ (gcN (f) false 18)))), τ) := by
    intro m
    induction m with
    | zero =>
      intro i e
      obtain rfl : i = 18 := e
      rw [g81_4]
      simp (disch := omega) only [aOk, eq_self, tk_sB, pr_sB, tk_wr, pr_wr, nQ_nat, nQ_neg, nQ_add, nQ_mul, nQ_lt, leF, ltT, ltF, rd_sB, rd_sB0, wr_sB, wr_sB0, cn_l, cn_r, Option.toList, List.cons_append, List.nil_append, if_true, if_false, true_and, and_true, or_false, false_or, true_or, or_true, not_false_eq_true, not_true_eq_false, and_false, false_and, zb_0, zb_1, q10]
    | succ m ih =>
      intro i e
      have hi : i < 18 := by omega
      have ih' := ih (i + 1) (by omega)
      rw [gc_s] at ih'
      have r29 := c29 (d := rw_ τ 9) hs hR hi
      have r31 := c31 (d := rw_ τ 9) hs hR hi
      rw [sB_rw] at r29 r31
      rw [g81_4]
      by_cases c1 : f (281 + i) = -1 <;> simp (disch := omega) only [aOk, eq_self, tk_sB, pr_sB, tk_wr, pr_wr, nQ_nat, nQ_neg, nQ_add, nQ_mul, nQ_lt, leF, ltT, ltF, rd_sB, rd_sB0, wr_sB, wr_sB0, cn_l, cn_r, Option.toList, List.cons_append, List.nil_append, if_true, if_false, true_and, and_true, or_false, false_or, true_or, or_true, not_false_eq_true, not_true_eq_false, and_false, false_and, zb_0, zb_1, q10, w1, w2, hs.2.1.1, hs.2.1.2.1, hs.2.1.2.2, hs.2.2.1.1, hs.2.2.1.2.1, hs.2.2.1.2.2.1, hs.2.2.1.2.2.2.1, hs.2.2.1.2.2.2.2.1, hs.2.2.1.2.2.2.2.2.1, hs.2.2.1.2.2.2.2.2.2.1, hs.2.2.1.2.2.2.2.2.2.2.1, hs.2.2.1.2.2.2.2.2.2.2.2, hs.2.2.2.1.1, hs.2.2.2.1.2.1, hs.2.2.2.1.2.2.1, hs.2.2.2.1.2.2.2, hs.2.2.2.2.1.1, hs.2.2.2.2.1.2.1, hs.2.2.2.2.1.2.2, hs.2.2.2.2.2.1.1, hs.2.2.2.2.2.1.2.1, hs.2.2.2.2.2.1.2.2.1, hs.2.2.2.2.2.1.2.2.2.1, hs.2.2.2.2.2.1.2.2.2.2.1, hs.2.2.2.2.2.1.2.2.2.2.2.1, hs.2.2.2.2.2.1.2.2.2.2.2.2, hs.2.2.2.2.2.2.1.1, hs.2.2.2.2.2.2.1.2.1, hs.2.2.2.2.2.2.1.2.2.1, hs.2.2.2.2.2.2.1.2.2.2, hs.2.2.2.2.2.2.2.1, hs.2.2.2.2.2.2.2.2.1, hs.2.2.2.2.2.2.2.2.2, le8 hs.1, r29, c1, gcP, Bool.false_eq_true, q10, g81_18, g81_24] at ih' ⊢ <;> exact ih'
  exact (g81_0).trans (Lp 18 0 rfl)
theorem q82 (h : RV τ f H c) (hn : f 4 = nQ n) (h60 : n ≤ 60) : DoM 82 [.ref 8] τ = some (.inl (some (.int (nQ (gcN (f) true 18)))), τ) := by
  obtain ⟨hR, hF, hI⟩ := RV_n h hn h60
  have w1 : tkM τ 8 = (1, 4) := h.1.1.1.1
  have w2 : prM τ 8 0 = 9 := h.1.1.1.2.1
  have hs : ShS τ 9 := h.1.1.2.1.1
  have Lp : ∀ (m i : Nat), i + m = 18 → RuM 82 (4, [some (.ref 8), some (.int (nQ (gcN (f) true i))), some (.int (nQ i))], [], 0, 0) τ = some (.inl (some (.int (nQ (gcN (f) true 18)))), τ) := by
    intro m
    induction m with
    | zero =>
      intro i e
      obtain rfl : i = 18 := e
      rw [g82_4]
      simp (disch := omega) only [aOk, eq_self, tk_sB, pr_sB, tk_wr, pr_wr, nQ_nat, nQ_neg, nQ_add, nQ_mul, nQ_lt, leF, ltT, ltF, rd_sB, rd_sB0, wr_sB, wr_sB0, cn_l, cn_r, Option.toList, List.cons_append, List.nil_append, if_true, if_false, true_and, and_true, or_false, false_or, true_or, or_true, not_false_eq_true, not_true_eq_false, and_false, false_and, zb_0, zb_1, q10]
    | succ m ih =>
      intro i e
      have hi : i < 18 := by omega
      have ih' := ih (i + 1) (by omega)
      rw [gc_s] at ih'
      have r29 := c29 (d := rw_ τ 9) hs hR hi
      have r31 := c31 (d := rw_ τ 9) hs hR hi
      rw [sB_rw] at r29 r31
      rw [g82_4]
      rcases Classical.propComplete (ovF (f) (f (281 + i)) (f 0) (i - i / 2 * 2)) with c1 | c1 <;> simp (disch := omega) only [aOk, eq_self, tk_sB, pr_sB, tk_wr, pr_wr, nQ_nat, nQ_neg, nQ_add, nQ_mul, nQ_lt, leF, ltT, ltF, rd_sB, rd_sB0, wr_sB, wr_sB0, cn_l, cn_r, Option.toList, List.cons_append, List.nil_append, if_true, if_false, true_and, and_true, or_false, false_or, true_or, or_true, not_false_eq_true, not_true_eq_false, and_false, false_and, zb_0, zb_1, q10, w1, w2, hs.2.1.1, hs.2.1.2.1, hs.2.1.2.2, hs.2.2.1.1, hs.2.2.1.2.1, hs.2.2.1.2.2.1, hs.2.2.1.2.2.2.1, hs.2.2.1.2.2.2.2.1, hs.2.2.1.2.2.2.2.2.1, hs.2.2.1.2.2.2.2.2.2.1, hs.2.2.1.2.2.2.2.2.2.2.1, hs.2.2.1.2.2.2.2.2.2.2.2, hs.2.2.2.1.1, hs.2.2.2.1.2.1, hs.2.2.2.1.2.2.1, hs.2.2.2.1.2.2.2, hs.2.2.2.2.1.1, hs.2.2.2.2.1.2.1, hs.2.2.2.2.1.2.2, hs.2.2.2.2.2.1.1, hs.2.2.2.2.2.1.2.1, hs.2.2.2.2.2.1.2.2.1, hs.2.2.2.2.2.1.2.2.2.1, hs.2.2.2.2.2.1.2.2.2.2.1, hs.2.2.2.2.2.1.2.2.2.2.2.1, hs.2.2.2.2.2.1.2.2.2.2.2.2, hs.2.2.2.2.2.2.1.1, hs.2.2.2.2.2.2.1.2.1, hs.2.2.2.2.2.2.1.2.2.1, hs.2.2.2.2.2.2.1.2.2.2, hs.2.2.2.2.2.2.2.1, hs.2.2.2.2.2.2.2.2.1, hs.2.2.2.2.2.2.2.2.2, le8 hs.1, r31, c1, gcP, Bool.false_eq_true, q10, g82_18, g82_24] at ih' ⊢ <;> exact ih'
  exact (g82_0).trans (Lp 18 0 rfl)
theorem q85 (h : RV τ f H c) : DoM 85 [.ref 8] τ = some (.inl (some (.int (nQ c))), τ) := by
  have w1 : tkM τ 8 = (1, 4) := h.1.1.1.1
  have e := h.2.2.2.1
  refine (g85_0).trans ?_
  simp (disch := omega) only [aOk, eq_self, tk_sB, pr_sB, tk_wr, pr_wr, nQ_nat, nQ_neg, nQ_add, nQ_mul, nQ_lt, leF, ltT, ltF, rd_sB, rd_sB0, wr_sB, wr_sB0, cn_l, cn_r, Option.toList, List.cons_append, List.nil_append, if_true, if_false, true_and, and_true, or_false, false_or, true_or, or_true, not_false_eq_true, not_true_eq_false, and_false, false_and, zb_0, zb_1, q10, w1, e]
theorem q70 (h : RV τ f H c) (hn : f 4 = nQ n) (h60 : n ≤ 60) {v w : Nat} (hv : v ≤ 9) (hw : w ≤ 99) : DoM 70 [.ref 8, .int (nQ v), .int (nQ w)] τ = some (.inl (some (.int (fiF f (nQ 100 * nQ v + nQ w) 3 n))), τ) := by
  obtain ⟨hR, hF, hI⟩ := RV_n h hn h60
  have w1 : tkM τ 8 = (1, 4) := h.1.1.1.1
  have w2 : prM τ 8 0 = 9 := h.1.1.1.2.1
  have hs : ShS τ 9 := h.1.1.2.1.1
  have hx : inP (nQ v) (nQ 0) (nQ 9) ∧ inP (nQ w) (nQ 0) (nQ 99) := ⟨in_Q hv (by decide), in_Q hw (by decide)⟩
  obtain ⟨y, e6, hy⟩ := c6 (d := rw_ τ 9) hs hF.1 hF.2.2.1 (nQ 100 * nQ v + nQ w)
  rw [sB_rw] at e6
  have hz := fi_spec f (nQ 100 * nQ v + nQ w) 3 n
  have c93' : DoM 93 [.int (nQ v), .int (nQ w)] τ = some (.inl (some (.int (nQ 100 * nQ v + nQ w))), τ) := (c93 _ _).trans (if_pos hx)
  generalize nQ 100 * nQ v + nQ w = key at *
  generalize fiF f key 3 n = z at *
  refine (g70_0).trans ?_
  rcases hy with ⟨i, hi, rfl, hk⟩ | ⟨rfl, hk⟩
  · have ej := nQ_m1 (i := i) (by have := hF.2.2.1; omega)
    have hi60 : i < 60 := by have := hF.2.2.1; omega
    have e : rdM τ (9 + 12) i = z := by
      rcases hz with ⟨j, hj, rfl, hk2⟩ | ⟨rfl, hk2⟩
      · exact congrArg (·.2.2.2) (fl_at hF hI.1.2.1 hi hj (hk.trans hk2.symm))
      · obtain ⟨j, hj, e⟩ := fl_to hF hi
        exact absurd ((congrArg (·.1) e).trans hk) (hk2 j hj)
    simp (disch := omega) only [aOk, eq_self, tk_sB, pr_sB, tk_wr, pr_wr, nQ_nat, nQ_neg, nQ_add, nQ_mul, nQ_lt, leF, ltT, ltF, rd_sB, rd_sB0, wr_sB, wr_sB0, cn_l, cn_r, Option.toList, List.cons_append, List.nil_append, if_true, if_false, true_and, and_true, or_false, false_or, true_or, or_true, not_false_eq_true, not_true_eq_false, and_false, false_and, zb_0, zb_1, q10, w1, w2, hs.2.1.1, hs.2.1.2.1, hs.2.1.2.2, hs.2.2.1.1, hs.2.2.1.2.1, hs.2.2.1.2.2.1, hs.2.2.1.2.2.2.1, hs.2.2.1.2.2.2.2.1, hs.2.2.1.2.2.2.2.2.1, hs.2.2.1.2.2.2.2.2.2.1, hs.2.2.1.2.2.2.2.2.2.2.1, hs.2.2.1.2.2.2.2.2.2.2.2, hs.2.2.2.1.1, hs.2.2.2.1.2.1, hs.2.2.2.1.2.2.1, hs.2.2.2.1.2.2.2, hs.2.2.2.2.1.1, hs.2.2.2.2.1.2.1, hs.2.2.2.2.1.2.2, hs.2.2.2.2.2.1.1, hs.2.2.2.2.2.1.2.1, hs.2.2.2.2.2.1.2.2.1, hs.2.2.2.2.2.1.2.2.2.1, hs.2.2.2.2.2.1.2.2.2.2.1, hs.2.2.2.2.2.1.2.2.2.2.2.1, hs.2.2.2.2.2.1.2.2.2.2.2.2, hs.2.2.2.2.2.2.1.1, hs.2.2.2.2.2.2.1.2.1, hs.2.2.2.2.2.2.1.2.2.1, hs.2.2.2.2.2.2.1.2.2.2, hs.2.2.2.2.2.2.2.1, hs.2.2.2.2.2.2.2.2.1, hs.2.2.2.2.2.2.2.2.2, le8 hs.1, c93', e6, ej, e, g70_12, g70_15, g70_37]
  · have e : z = -1 := by
      rcases hz with ⟨j, hj, rfl, hk2⟩ | ⟨rfl, hk2⟩
      · obtain ⟨i, hi, e⟩ := fl_fro hF hj
        exact absurd ((congrArg (·.1) e).trans hk2) (hk i hi)
      · rfl
    simp (disch := omega) only [aOk, eq_self, tk_sB, pr_sB, tk_wr, pr_wr, nQ_nat, nQ_neg, nQ_add, nQ_mul, nQ_lt, leF, ltT, ltF, rd_sB, rd_sB0, wr_sB, wr_sB0, cn_l, cn_r, Option.toList, List.cons_append, List.nil_append, if_true, if_false, true_and, and_true, or_false, false_or, true_or, or_true, not_false_eq_true, not_true_eq_false, and_false, false_and, zb_0, zb_1, q10, w1, w2, hs.2.1.1, hs.2.1.2.1, hs.2.1.2.2, hs.2.2.1.1, hs.2.2.1.2.1, hs.2.2.1.2.2.1, hs.2.2.1.2.2.2.1, hs.2.2.1.2.2.2.2.1, hs.2.2.1.2.2.2.2.2.1, hs.2.2.1.2.2.2.2.2.2.1, hs.2.2.1.2.2.2.2.2.2.2.1, hs.2.2.1.2.2.2.2.2.2.2.2, hs.2.2.2.1.1, hs.2.2.2.1.2.1, hs.2.2.2.1.2.2.1, hs.2.2.2.1.2.2.2, hs.2.2.2.2.1.1, hs.2.2.2.2.1.2.1, hs.2.2.2.2.1.2.2, hs.2.2.2.2.2.1.1, hs.2.2.2.2.2.1.2.1, hs.2.2.2.2.2.1.2.2.1, hs.2.2.2.2.2.1.2.2.2.1, hs.2.2.2.2.2.1.2.2.2.2.1, hs.2.2.2.2.2.1.2.2.2.2.2.1, hs.2.2.2.2.2.1.2.2.2.2.2.2, hs.2.2.2.2.2.2.1.1, hs.2.2.2.2.2.2.1.2.1, hs.2.2.2.2.2.2.1.2.2.1, hs.2.2.2.2.2.2.1.2.2.2, hs.2.2.2.2.2.2.2.1, hs.2.2.2.2.2.2.2.2.1, hs.2.2.2.2.2.2.2.2.2, le8 hs.1, c93', e6, e, g70_12, g70_15, g70_37]
theorem q71 (h : RV τ f H c) (hn : f 4 = nQ n) (h60 : n ≤ 60) {v w : Nat} (hv : v ≤ 9) (hw : w ≤ 99) : DoM 71 [.ref 8, .int (nQ v), .int (nQ w)] τ = some (.inl (some (.int (fiF f (nQ 100 * nQ v + nQ w) 1 n))), τ) := by
  obtain ⟨hR, hF, hI⟩ := RV_n h hn h60
  have w1 : tkM τ 8 = (1, 4) := h.1.1.1.1
  have w2 : prM τ 8 0 = 9 := h.1.1.1.2.1
  have hs : ShS τ 9 := h.1.1.2.1.1
  have hx : inP (nQ v) (nQ 0) (nQ 9) ∧ inP (nQ w) (nQ 0) (nQ 99) := ⟨in_Q hv (by decide), in_Q hw (by decide)⟩
  obtain ⟨y, e6, hy⟩ := c6 (d := rw_ τ 9) hs hF.1 hF.2.2.1 (nQ 100 * nQ v + nQ w)
  rw [sB_rw] at e6
  have hz := fi_spec f (nQ 100 * nQ v + nQ w) 1 n
  have c93' : DoM 93 [.int (nQ v), .int (nQ w)] τ = some (.inl (some (.int (nQ 100 * nQ v + nQ w))), τ) := (c93 _ _).trans (if_pos hx)
  generalize nQ 100 * nQ v + nQ w = key at *
  generalize fiF f key 1 n = z at *
  refine (g71_0).trans ?_
  rcases hy with ⟨i, hi, rfl, hk⟩ | ⟨rfl, hk⟩
  · have ej := nQ_m1 (i := i) (by have := hF.2.2.1; omega)
    have hi60 : i < 60 := by have := hF.2.2.1; omega
    have e : rdM τ (9 + 10) i = z := by
      rcases hz with ⟨j, hj, rfl, hk2⟩ | ⟨rfl, hk2⟩
      · exact congrArg (·.2.1) (fl_at hF hI.1.2.1 hi hj (hk.trans hk2.symm))
      · obtain ⟨j, hj, e⟩ := fl_to hF hi
        exact absurd ((congrArg (·.1) e).trans hk) (hk2 j hj)
    simp (disch := omega) only [aOk, eq_self, tk_sB, pr_sB, tk_wr, pr_wr, nQ_nat, nQ_neg, nQ_add, nQ_mul, nQ_lt, leF, ltT, ltF, rd_sB, rd_sB0, wr_sB, wr_sB0, cn_l, cn_r, Option.toList, List.cons_append, List.nil_append, if_true, if_false, true_and, and_true, or_false, false_or, true_or, or_true, not_false_eq_true, not_true_eq_false, and_false, false_and, zb_0, zb_1, q10, w1, w2, hs.2.1.1, hs.2.1.2.1, hs.2.1.2.2, hs.2.2.1.1, hs.2.2.1.2.1, hs.2.2.1.2.2.1, hs.2.2.1.2.2.2.1, hs.2.2.1.2.2.2.2.1, hs.2.2.1.2.2.2.2.2.1, hs.2.2.1.2.2.2.2.2.2.1, hs.2.2.1.2.2.2.2.2.2.2.1, hs.2.2.1.2.2.2.2.2.2.2.2, hs.2.2.2.1.1, hs.2.2.2.1.2.1, hs.2.2.2.1.2.2.1, hs.2.2.2.1.2.2.2, hs.2.2.2.2.1.1, hs.2.2.2.2.1.2.1, hs.2.2.2.2.1.2.2, hs.2.2.2.2.2.1.1, hs.2.2.2.2.2.1.2.1, hs.2.2.2.2.2.1.2.2.1, hs.2.2.2.2.2.1.2.2.2.1, hs.2.2.2.2.2.1.2.2.2.2.1, hs.2.2.2.2.2.1.2.2.2.2.2.1, hs.2.2.2.2.2.1.2.2.2.2.2.2, hs.2.2.2.2.2.2.1.1, hs.2.2.2.2.2.2.1.2.1, hs.2.2.2.2.2.2.1.2.2.1, hs.2.2.2.2.2.2.1.2.2.2, hs.2.2.2.2.2.2.2.1, hs.2.2.2.2.2.2.2.2.1, hs.2.2.2.2.2.2.2.2.2, le8 hs.1, c93', e6, ej, e, g71_12, g71_15, g71_37]
  · have e : z = -1 := by
      rcases hz with ⟨j, hj, rfl, hk2⟩ | ⟨rfl, hk2⟩
      · obtain ⟨i, hi, e⟩ := fl_fro hF hj
        exact absurd ((congrArg (·.1) e).trans hk2) (hk i hi)
      · rfl
    simp (disch := omega) only [aOk, eq_self, tk_sB, pr_sB, tk_wr, pr_wr, nQ_nat, nQ_neg, nQ_add, nQ_mul, nQ_lt, leF, ltT, ltF, rd_sB, rd_sB0, wr_sB, wr_sB0, cn_l, cn_r, Option.toList, List.cons_append, List.nil_append, if_true, if_false, true_and, and_true, or_false, false_or, true_or, or_true, not_false_eq_true, not_true_eq_false, and_false, false_and, zb_0, zb_1, q10, w1, w2, hs.2.1.1, hs.2.1.2.1, hs.2.1.2.2, hs.2.2.1.1, hs.2.2.1.2.1, hs.2.2.1.2.2.1, hs.2.2.1.2.2.2.1, hs.2.2.1.2.2.2.2.1, hs.2.2.1.2.2.2.2.2.1, hs.2.2.1.2.2.2.2.2.2.1, hs.2.2.1.2.2.2.2.2.2.2.1, hs.2.2.1.2.2.2.2.2.2.2.2, hs.2.2.2.1.1, hs.2.2.2.1.2.1, hs.2.2.2.1.2.2.1, hs.2.2.2.1.2.2.2, hs.2.2.2.2.1.1, hs.2.2.2.2.1.2.1, hs.2.2.2.2.1.2.2, hs.2.2.2.2.2.1.1, hs.2.2.2.2.2.1.2.1, hs.2.2.2.2.2.1.2.2.1, hs.2.2.2.2.2.1.2.2.2.1, hs.2.2.2.2.2.1.2.2.2.2.1, hs.2.2.2.2.2.1.2.2.2.2.2.1, hs.2.2.2.2.2.1.2.2.2.2.2.2, hs.2.2.2.2.2.2.1.1, hs.2.2.2.2.2.2.1.2.1, hs.2.2.2.2.2.2.1.2.2.1, hs.2.2.2.2.2.2.1.2.2.2, hs.2.2.2.2.2.2.2.1, hs.2.2.2.2.2.2.2.2.1, hs.2.2.2.2.2.2.2.2.2, le8 hs.1, c93', e6, e, g71_12, g71_15, g71_37]
theorem q72 (h : RV τ f H c) (hn : f 4 = nQ n) (h60 : n ≤ 60) {v w : Nat} (hv : v ≤ 9) (hw : w ≤ 99) : DoM 72 [.ref 8, .int (nQ v), .int (nQ w)] τ = some (.inl (some (.int (fiF f (nQ 100 * nQ v + nQ w) 2 n))), τ) := by
  obtain ⟨hR, hF, hI⟩ := RV_n h hn h60
  have w1 : tkM τ 8 = (1, 4) := h.1.1.1.1
  have w2 : prM τ 8 0 = 9 := h.1.1.1.2.1
  have hs : ShS τ 9 := h.1.1.2.1.1
  have hx : inP (nQ v) (nQ 0) (nQ 9) ∧ inP (nQ w) (nQ 0) (nQ 99) := ⟨in_Q hv (by decide), in_Q hw (by decide)⟩
  obtain ⟨y, e6, hy⟩ := c6 (d := rw_ τ 9) hs hF.1 hF.2.2.1 (nQ 100 * nQ v + nQ w)
  rw [sB_rw] at e6
  have hz := fi_spec f (nQ 100 * nQ v + nQ w) 2 n
  have c93' : DoM 93 [.int (nQ v), .int (nQ w)] τ = some (.inl (some (.int (nQ 100 * nQ v + nQ w))), τ) := (c93 _ _).trans (if_pos hx)
  generalize nQ 100 * nQ v + nQ w = key at *
  generalize fiF f key 2 n = z at *
  refine (g72_0).trans ?_
  rcases hy with ⟨i, hi, rfl, hk⟩ | ⟨rfl, hk⟩
  · have ej := nQ_m1 (i := i) (by have := hF.2.2.1; omega)
    have hi60 : i < 60 := by have := hF.2.2.1; omega
    have e : rdM τ (9 + 11) i = z := by
      rcases hz with ⟨j, hj, rfl, hk2⟩ | ⟨rfl, hk2⟩
      · exact congrArg (·.2.2.1) (fl_at hF hI.1.2.1 hi hj (hk.trans hk2.symm))
      · obtain ⟨j, hj, e⟩ := fl_to hF hi
        exact absurd ((congrArg (·.1) e).trans hk) (hk2 j hj)
    simp (disch := omega) only [aOk, eq_self, tk_sB, pr_sB, tk_wr, pr_wr, nQ_nat, nQ_neg, nQ_add, nQ_mul, nQ_lt, leF, ltT, ltF, rd_sB, rd_sB0, wr_sB, wr_sB0, cn_l, cn_r, Option.toList, List.cons_append, List.nil_append, if_true, if_false, true_and, and_true, or_false, false_or, true_or, or_true, not_false_eq_true, not_true_eq_false, and_false, false_and, zb_0, zb_1, q10, w1, w2, hs.2.1.1, hs.2.1.2.1, hs.2.1.2.2, hs.2.2.1.1, hs.2.2.1.2.1, hs.2.2.1.2.2.1, hs.2.2.1.2.2.2.1, hs.2.2.1.2.2.2.2.1, hs.2.2.1.2.2.2.2.2.1, hs.2.2.1.2.2.2.2.2.2.1, hs.2.2.1.2.2.2.2.2.2.2.1, hs.2.2.1.2.2.2.2.2.2.2.2, hs.2.2.2.1.1, hs.2.2.2.1.2.1, hs.2.2.2.1.2.2.1, hs.2.2.2.1.2.2.2, hs.2.2.2.2.1.1, hs.2.2.2.2.1.2.1, hs.2.2.2.2.1.2.2, hs.2.2.2.2.2.1.1, hs.2.2.2.2.2.1.2.1, hs.2.2.2.2.2.1.2.2.1, hs.2.2.2.2.2.1.2.2.2.1, hs.2.2.2.2.2.1.2.2.2.2.1, hs.2.2.2.2.2.1.2.2.2.2.2.1, hs.2.2.2.2.2.1.2.2.2.2.2.2, hs.2.2.2.2.2.2.1.1, hs.2.2.2.2.2.2.1.2.1, hs.2.2.2.2.2.2.1.2.2.1, hs.2.2.2.2.2.2.1.2.2.2, hs.2.2.2.2.2.2.2.1, hs.2.2.2.2.2.2.2.2.1, hs.2.2.2.2.2.2.2.2.2, le8 hs.1, c93', e6, ej, e, g72_12, g72_15, g72_37]
  · have e : z = -1 := by
      rcases hz with ⟨j, hj, rfl, hk2⟩ | ⟨rfl, hk2⟩
      · obtain ⟨i, hi, e⟩ := fl_fro hF hj
        exact absurd ((congrArg (·.1) e).trans hk2) (hk i hi)
      · rfl
    simp (disch := omega) only [aOk, eq_self, tk_sB, pr_sB, tk_wr, pr_wr, nQ_nat, nQ_neg, nQ_add, nQ_mul, nQ_lt, leF, ltT, ltF, rd_sB, rd_sB0, wr_sB, wr_sB0, cn_l, cn_r, Option.toList, List.cons_append, List.nil_append, if_true, if_false, true_and, and_true, or_false, false_or, true_or, or_true, not_false_eq_true, not_true_eq_false, and_false, false_and, zb_0, zb_1, q10, w1, w2, hs.2.1.1, hs.2.1.2.1, hs.2.1.2.2, hs.2.2.1.1, hs.2.2.1.2.1, hs.2.2.1.2.2.1, hs.2.2.1.2.2.2.1, hs.2.2.1.2.2.2.2.1, hs.2.2.1.2.2.2.2.2.1, hs.2.2.1.2.2.2.2.2.2.1, hs.2.2.1.2.2.2.2.2.2.2.1, hs.2.2.1.2.2.2.2.2.2.2.2, hs.2.2.2.1.1, hs.2.2.2.1.2.1, hs.2.2.2.1.2.2.1, hs.2.2.2.1.2.2.2, hs.2.2.2.2.1.1, hs.2.2.2.2.1.2.1, hs.2.2.2.2.1.2.2, hs.2.2.2.2.2.1.1, hs.2.2.2.2.2.1.2.1, hs.2.2.2.2.2.1.2.2.1, hs.2.2.2.2.2.1.2.2.2.1, hs.2.2.2.2.2.1.2.2.2.2.1, hs.2.2.2.2.2.1.2.2.2.2.2.1, hs.2.2.2.2.2.1.2.2.2.2.2.2, hs.2.2.2.2.2.2.1.1, hs.2.2.2.2.2.2.1.2.1, hs.2.2.2.2.2.2.1.2.2.1, hs.2.2.2.2.2.2.1.2.2.2, hs.2.2.2.2.2.2.2.1, hs.2.2.2.2.2.2.2.2.1, hs.2.2.2.2.2.2.2.2.2, le8 hs.1, c93', e6, e, g72_12, g72_15, g72_37]
theorem q76 (h : RV τ f H c) (hn : f 4 = nQ n) (h60 : n ≤ 60) {u g z : Nat} (hu : u ≤ 5) (hg : g ≤ 2) (hz5 : z ≤ 5000) : DoM 76 [.ref 8, .int (nQ u), .int (nQ g), .int (nQ z)] τ = some (.inl (some (.int (nQ (raN (f) n (riF (fun _ => nQ 0) (nQ z) (nQ 1) (nQ z) (nQ 1)) u g)))), τ) := by
  obtain ⟨hR, hF, hI⟩ := RV_n h hn h60
  have w1 : tkM τ 8 = (1, 4) := h.1.1.1.1
  have w2 : prM τ 8 0 = 9 := h.1.1.1.2.1
  have hs : ShS τ 9 := h.1.1.2.1.1
  have hx : inP (nQ u) (nQ 0) (nQ 5) ∧ inP (nQ g) (nQ 0) (nQ 2) := ⟨in_Q hu (by decide), in_Q hg (by decide)⟩
  have hzz : inP (nQ z) (nQ 0) (nQ 5000) := in_Q hz5 (by decide)
  have r23 := c23 (d := rw_ τ 9) hs hR (n := n) (fun k _ => rfl) (u := u) (g := g) (by omega) (by omega) (x0 := nQ z) (x1 := nQ 1) (x2 := nQ z) (x3 := nQ 1) (ri := riF (fun _ => nQ 0) (nQ z) (nQ 1) (nQ z) (nQ 1)) (by_q hz5) (by_q (by decide)) (by_q hz5) (by_q (by decide))
  rw [sB_rw] at r23
  refine (g76_0).trans ?_
  simp (disch := omega) only [aOk, eq_self, tk_sB, pr_sB, tk_wr, pr_wr, nQ_nat, nQ_neg, nQ_add, nQ_mul, nQ_lt, leF, ltT, ltF, rd_sB, rd_sB0, wr_sB, wr_sB0, cn_l, cn_r, Option.toList, List.cons_append, List.nil_append, if_true, if_false, true_and, and_true, or_false, false_or, true_or, or_true, not_false_eq_true, not_true_eq_false, and_false, false_and, zb_0, zb_1, q10, w1, w2, hs.2.1.1, hs.2.1.2.1, hs.2.1.2.2, hs.2.2.1.1, hs.2.2.1.2.1, hs.2.2.1.2.2.1, hs.2.2.1.2.2.2.1, hs.2.2.1.2.2.2.2.1, hs.2.2.1.2.2.2.2.2.1, hs.2.2.1.2.2.2.2.2.2.1, hs.2.2.1.2.2.2.2.2.2.2.1, hs.2.2.1.2.2.2.2.2.2.2.2, hs.2.2.2.1.1, hs.2.2.2.1.2.1, hs.2.2.2.1.2.2.1, hs.2.2.2.1.2.2.2, hs.2.2.2.2.1.1, hs.2.2.2.2.1.2.1, hs.2.2.2.2.1.2.2, hs.2.2.2.2.2.1.1, hs.2.2.2.2.2.1.2.1, hs.2.2.2.2.2.1.2.2.1, hs.2.2.2.2.2.1.2.2.2.1, hs.2.2.2.2.2.1.2.2.2.2.1, hs.2.2.2.2.2.1.2.2.2.2.2.1, hs.2.2.2.2.2.1.2.2.2.2.2.2, hs.2.2.2.2.2.2.1.1, hs.2.2.2.2.2.2.1.2.1, hs.2.2.2.2.2.2.1.2.2.1, hs.2.2.2.2.2.2.1.2.2.2, hs.2.2.2.2.2.2.2.1, hs.2.2.2.2.2.2.2.2.1, hs.2.2.2.2.2.2.2.2.2, le8 hs.1, c87, c88, c94, eq_true hx.1, eq_true hx.2, eq_true hzz, r23, g76_4, g76_8, g76_12, g76_25]
theorem q83 (h : RV τ f H c) (hn : f 4 = nQ n) (h60 : n ≤ 60) {v p : Nat} (hv : v < 100) (hp : p ≤ 3) {e : Nat} (he : f 308 = nQ e) (h12 : e ≤ 12) : DoM 83 [.ref 8, .int (nQ v), .int (nQ p)] τ = some (.inl (some (.int (if nQ v < nQ e then f (309 + 4 * (nQ v).toNatClampNeg + p) else -1))), τ) := by
  obtain ⟨hR, hF, hI⟩ := RV_n h hn h60
  have w1 : tkM τ 8 = (1, 4) := h.1.1.1.1
  have w2 : prM τ 8 0 = 9 := h.1.1.1.2.1
  have hs : ShS τ 9 := h.1.1.2.1.1
  have hx : ¬ nQ v < nQ 0 := by rw [nQ_lt (by omega) (by omega)]; omega
  obtain ⟨e', he', h12', hc3⟩ := c3 (d := rw_ τ 9) hs hR.2.2.2
  have ee : e' = e := by
    rw [he, nQ_eq (by omega) (by omega)] at he'
    exact he'.symm
  subst ee
  have e3 := hc3 (nQ v) p hx (by omega)
  rw [sB_rw] at e3
  refine (g83_0).trans ?_
  simp (disch := omega) only [aOk, eq_self, tk_sB, pr_sB, tk_wr, pr_wr, nQ_nat, nQ_neg, nQ_add, nQ_mul, nQ_lt, leF, ltT, ltF, rd_sB, rd_sB0, wr_sB, wr_sB0, cn_l, cn_r, Option.toList, List.cons_append, List.nil_append, if_true, if_false, true_and, and_true, or_false, false_or, true_or, or_true, not_false_eq_true, not_true_eq_false, and_false, false_and, zb_0, zb_1, q10, w1, w2, hs.2.1.1, hs.2.1.2.1, hs.2.1.2.2, hs.2.2.1.1, hs.2.2.1.2.1, hs.2.2.1.2.2.1, hs.2.2.1.2.2.2.1, hs.2.2.1.2.2.2.2.1, hs.2.2.1.2.2.2.2.2.1, hs.2.2.1.2.2.2.2.2.2.1, hs.2.2.1.2.2.2.2.2.2.2.1, hs.2.2.1.2.2.2.2.2.2.2.2, hs.2.2.2.1.1, hs.2.2.2.1.2.1, hs.2.2.2.1.2.2.1, hs.2.2.2.1.2.2.2, hs.2.2.2.2.1.1, hs.2.2.2.2.1.2.1, hs.2.2.2.2.1.2.2, hs.2.2.2.2.2.1.1, hs.2.2.2.2.2.1.2.1, hs.2.2.2.2.2.1.2.2.1, hs.2.2.2.2.2.1.2.2.2.1, hs.2.2.2.2.2.1.2.2.2.2.1, hs.2.2.2.2.2.1.2.2.2.2.2.1, hs.2.2.2.2.2.1.2.2.2.2.2.2, hs.2.2.2.2.2.2.1.1, hs.2.2.2.2.2.2.1.2.1, hs.2.2.2.2.2.2.1.2.2.1, hs.2.2.2.2.2.2.1.2.2.2, hs.2.2.2.2.2.2.2.1, hs.2.2.2.2.2.2.2.2.1, hs.2.2.2.2.2.2.2.2.2, le8 hs.1, eq_false hx, e3, g83_47]
end Qu
