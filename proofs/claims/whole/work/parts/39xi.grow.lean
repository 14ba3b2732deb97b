/-! Steady growth, on both sides. -/
theorem rvU_lo (f U : Nat → Int32) {k i : Nat} (hk : k < 18) (h : i < 308) (hi : ¬ i = 281 + k) : rvU f U k i = f i := by
  unfold rvU
  split
  · rw [lg_lo _ _ _ _ h, up_n hi]
  · split
    · rw [lg_lo _ _ _ _ h, up_n hi]
    · rfl
theorem rAU_lo (f U : Nat → Int32) {i : Nat} (h : i < 281) : ∀ k, k ≤ 18 → rAU f U k i = f i
  | 0, _ => rfl
  | k + 1, hk => by
    show rvU (rAU f U k) U k i = f i
    rw [rvU_lo _ _ (by omega) (by omega) (by omega)]
    exact rAU_lo f U h k (by omega)
theorem rvU_st (f U : Nat → Int32) {k : Nat} (hk : k < 18) : rvU f U k (281 + k) = rwF f k (U k) (f (281 + k)) (f 0) := by
  unfold rvU rwF
  by_cases c1 : ¬ f (245 + k) = nQ 0 ∧ f (245 + k) < U k
  · by_cases c2 : f (281 + k) = -1
    · rw [if_pos ⟨c1, c2⟩, if_pos c1, if_pos c2, lg_lo _ _ _ _ (by omega), up_s]
    · rw [if_neg (fun z => c2 z.2), if_neg (fun z => z.1 c1), if_pos c1, if_neg c2]
  · by_cases c2 : f (281 + k) = -1
    · rw [if_neg (fun z => c1 z.1), if_neg (fun z => z.2 c2), if_neg c1, c2]
    · rw [if_neg (fun z => c1 z.1), if_pos ⟨c1, c2⟩, if_neg c1, lg_lo _ _ _ _ (by omega), up_s]
theorem rAU_st (f U : Nat → Int32) {j : Nat} (hj : j < 18) : ∀ k, k ≤ 18 → rAU f U k (281 + j) = if j < k then rwF f j (U j) (f (281 + j)) (f 0) else f (281 + j)
  | 0, _ => by rw [if_neg (by omega)]; rfl
  | k + 1, hk => by
    show rvU (rAU f U k) U k (281 + j) = _
    by_cases e : j = k
    · subst e
      rw [rvU_st _ _ hj, if_pos (by omega), rAU_st f U hj j (by omega), if_neg (by omega)]
      unfold rwF
      rw [rAU_lo f U (by omega) j (by omega), rAU_lo f U (by omega) j (by omega)]
    · rw [rvU_lo _ _ (by omega) (by omega) (by omega), rAU_st f U hj k (by omega)]
      by_cases c : j < k
      · rw [if_pos c, if_pos (by omega)]
      · rw [if_neg c, if_neg (by omega)]
theorem ca_0 (f : Nat → Int32) (k : Nat) (us : Int32) (ov : Prop) [Decidable ov] : caN f k us (nQ 0) ov = 0 := if_pos rfl
section Ga
variable {σ : Mem} {b : Nat} {d : Nat → Nat → Int32} {f U : Nat → Int32}
theorem c23g (h : ShS σ b) (hR : RlC d f U) {u g z : Nat} (hu : u < 6) (hg : g < 3) (hz : z ≤ 5000) : DoM 23 [.ref b, .int (nQ u), .int (nQ z), .int (nQ 0), .int (nQ g), .int (nQ z), .int (nQ 0)] (sB 17 σ b d) = some (.inl (some (.int (nQ (if frF f u then 0 else if 0 < caN f (2 * u) (U (2 * u)) (nQ z) (ovF f (f (281 + 2 * u)) (f 0) 0) then caN f (2 * u) (U (2 * u)) (nQ z) (ovF f (f (281 + 2 * u)) (f 0) 0) else if 0 < caN f (2 * (6 + g)) (U (2 * (6 + g))) (nQ z) (ovF f (f (281 + 2 * (6 + g))) (f 0) 0) then 4 + caN f (2 * (6 + g)) (U (2 * (6 + g))) (nQ z) (ovF f (f (281 + 2 * (6 + g))) (f 0) 0) else 0)))), sB 17 σ b d) := by
  obtain ⟨h8, ⟨k0, k8, k13⟩, ⟨p1, p2, p3, p4, p5, p6, p7, p8, p9⟩, ⟨q1, q2, q3, q4⟩, ⟨e2, e3, e4⟩, ⟨t1, t2, t3, t4, t5, t6, t7⟩, ⟨t9, t10, t11, t12⟩, ⟨t14, t15, t16⟩⟩ := id h
  have r0 := c24 h hR (k := 2 * u + 0) (by omega) (by_q hz)
  have r1 := c24 h hR (k := 2 * u + 1) (by omega) (by_q (z := 0) (by decide))
  have r2 := c24 h hR (k := 2 * (6 + g) + 0) (by omega) (by_q hz)
  have r3 := c24 h hR (k := 2 * (6 + g) + 1) (by omega) (by_q (z := 0) (by decide))
  rw [ca_0] at r1 r3
  rw [show 2 * u + 0 - (2 * u + 0) / 2 * 2 = 0 by omega] at r0
  rw [show 2 * (6 + g) + 0 - (2 * (6 + g) + 0) / 2 * 2 = 0 by omega] at r2
  simp only [Nat.add_zero] at r0 r2
  have l0 : caN f (2 * u) (U (2 * u)) (nQ z) (ovF f (f (281 + 2 * u)) (f 0) 0) ≤ 2 := ca_le _ _ _ _ _
  have l2 : caN f (2 * (6 + g)) (U (2 * (6 + g))) (nQ z) (ovF f (f (281 + 2 * (6 + g))) (f 0) 0) ≤ 2 := ca_le _ _ _ _ _
  have ex := hR.1.2.2 u hu
  refine (g23_0).trans ?_
  generalize caN f (2 * u) (U (2 * u)) (nQ z) (ovF f (f (281 + 2 * u)) (f 0) 0) = C0 at *
  generalize caN f (2 * (6 + g)) (U (2 * (6 + g))) (nQ z) (ovF f (f (281 + 2 * (6 + g))) (f 0) 0) = C2 at *
  rcases Classical.propComplete (frF f u) with c | c
  · simp (disch := omega) only [aOk, eq_self, tk_sB, pr_sB, tk_wr, pr_wr, nQ_nat, nQ_neg, nQ_add, nQ_mul, nQ_lt, leF, ltT, ltF, rd_sB, rd_sB0, wr_sB, wr_sB0, cn_l, cn_r, Option.toList, List.cons_append, List.nil_append, if_true, if_false, true_and, and_true, or_false, false_or, true_or, or_true, not_false_eq_true, not_true_eq_false, and_false, false_and, zb_0, zb_1, q10, k0, k8, k13, p1, p2, p3, p4, p5, p6, p7, p8, p9, q1, q2, q3, q4, e2, e3, e4, t1, t2, t3, t4, t5, t6, t7, t9, t10, t11, t12, t14, t15, t16, le8 h8, ex, c, q10]
  · by_cases c0 : C0 = 0
    · by_cases c2 : C2 = 0
      · simp (disch := omega) only [aOk, eq_self, tk_sB, pr_sB, tk_wr, pr_wr, nQ_nat, nQ_neg, nQ_add, nQ_mul, nQ_lt, leF, ltT, ltF, rd_sB, rd_sB0, wr_sB, wr_sB0, cn_l, cn_r, Option.toList, List.cons_append, List.nil_append, if_true, if_false, true_and, and_true, or_false, false_or, true_or, or_true, not_false_eq_true, not_true_eq_false, and_false, false_and, zb_0, zb_1, q10, k0, k8, k13, p1, p2, p3, p4, p5, p6, p7, p8, p9, q1, q2, q3, q4, e2, e3, e4, t1, t2, t3, t4, t5, t6, t7, t9, t10, t11, t12, t14, t15, t16, le8 h8, ex, c, c98, c99, Nat.add_zero, r0, r1, r2, r3, c0, c2, Nat.lt_irrefl, g23_16, g23_24, g23_28, g23_44, g23_48, g23_67, g23_72, g23_91, g23_96, g23_112]
      · have c2' : 0 < C2 := by omega
        have e2 : (nQ C2 = nQ 0) = False := by rw [nQ_eq (by omega) (by decide)]; exact eq_false c2
        simp (disch := omega) only [aOk, eq_self, tk_sB, pr_sB, tk_wr, pr_wr, nQ_nat, nQ_neg, nQ_add, nQ_mul, nQ_lt, leF, ltT, ltF, rd_sB, rd_sB0, wr_sB, wr_sB0, cn_l, cn_r, Option.toList, List.cons_append, List.nil_append, if_true, if_false, true_and, and_true, or_false, false_or, true_or, or_true, not_false_eq_true, not_true_eq_false, and_false, false_and, zb_0, zb_1, q10, k0, k8, k13, p1, p2, p3, p4, p5, p6, p7, p8, p9, q1, q2, q3, q4, e2, e3, e4, t1, t2, t3, t4, t5, t6, t7, t9, t10, t11, t12, t14, t15, t16, le8 h8, ex, c, c98, c99, Nat.add_zero, r0, r1, r2, c0, c2', e2, Nat.lt_irrefl, g23_16, g23_24, g23_28, g23_44, g23_48, g23_67, g23_72, g23_91, g23_96, g23_112]
    · have c0' : 0 < C0 := by omega
      have e0 : (nQ C0 = nQ 0) = False := by rw [nQ_eq (by omega) (by decide)]; exact eq_false c0
      simp (disch := omega) only [aOk, eq_self, tk_sB, pr_sB, tk_wr, pr_wr, nQ_nat, nQ_neg, nQ_add, nQ_mul, nQ_lt, leF, ltT, ltF, rd_sB, rd_sB0, wr_sB, wr_sB0, cn_l, cn_r, Option.toList, List.cons_append, List.nil_append, if_true, if_false, true_and, and_true, or_false, false_or, true_or, or_true, not_false_eq_true, not_true_eq_false, and_false, false_and, zb_0, zb_1, q10, k0, k8, k13, p1, p2, p3, p4, p5, p6, p7, p8, p9, q1, q2, q3, q4, e2, e3, e4, t1, t2, t3, t4, t5, t6, t7, t9, t10, t11, t12, t14, t15, t16, le8 h8, ex, c, c98, c99, Nat.add_zero, r0, c0', e0, Nat.lt_irrefl, g23_16, g23_24, g23_28, g23_44, g23_48, g23_67, g23_72, g23_91, g23_96, g23_112]
theorem c26g (h : ShS σ b) (hR : RlC d f U) {ρ u g : Nat} (hu : u < 6) (hg : g < 3) (h1 : 1 ≤ ρ) (h8' : ρ ≤ 8) : ∃ d', DoM 26 [.ref b, .int (nQ ρ), .int (nQ u), .int (nQ g)] (sB 17 σ b d) = some (.inl none, sB 17 σ b d') := by
  obtain ⟨h8, ⟨k0, k8, k13⟩, ⟨p1, p2, p3, p4, p5, p6, p7, p8, p9⟩, ⟨q1, q2, q3, q4⟩, ⟨e2, e3, e4⟩, ⟨t1, t2, t3, t4, t5, t6, t7⟩, ⟨t9, t10, t11, t12⟩, ⟨t14, t15, t16⟩⟩ := id h
  have ha := ac_lt (e := (ρ - 1) / 2) hu hg
  have h7 := hR.2.2.1 (acN ((ρ - 1) / 2) u g) ha
  have hR' := Rl_rf hR ha (f (299 + acN ((ρ - 1) / 2) u g) + nQ 1)
  have hk : 2 * acN ((ρ - 1) / 2) u g + ((ρ - 1) / 2 - (ρ - 1) / 2 / 2 * 2) < 18 := by omega
  obtain ⟨d', x1, x2, x3⟩ := c2 h hR'.2.2.2 hk (nQ 4) (y := f 0) (up_n (by omega)).symm
  refine ⟨d', ?_⟩
  refine (g26_0).trans ?_
  have e0 := hR.1.1
  by_cases c : 4 < ρ
  · have ea : acN ((ρ - 1) / 2) u g = 6 + g := if_neg (by omega)
    rw [ea] at h7 x1 ha
    simp (disch := omega) only [aOk, eq_self, tk_sB, pr_sB, tk_wr, pr_wr, nQ_nat, nQ_neg, nQ_add, nQ_mul, nQ_lt, leF, ltT, ltF, rd_sB, rd_sB0, wr_sB, wr_sB0, cn_l, cn_r, Option.toList, List.cons_append, List.nil_append, if_true, if_false, true_and, and_true, or_false, false_or, true_or, or_true, not_false_eq_true, not_true_eq_false, and_false, false_and, zb_0, zb_1, q10, k0, k8, k13, p1, p2, p3, p4, p5, p6, p7, p8, p9, q1, q2, q3, q4, e2, e3, e4, t1, t2, t3, t4, t5, t6, t7, t9, t10, t11, t12, t14, t15, t16, le8 h8, c99, c98, c, nQ_sub, nQ_div, h7, e0, rX_n, rX_s, x1, g26_13, g26_35, g26_47, g26_54]
  · have ea : acN ((ρ - 1) / 2) u g = u := if_pos (by omega)
    rw [ea] at h7 x1 ha
    simp (disch := omega) only [aOk, eq_self, tk_sB, pr_sB, tk_wr, pr_wr, nQ_nat, nQ_neg, nQ_add, nQ_mul, nQ_lt, leF, ltT, ltF, rd_sB, rd_sB0, wr_sB, wr_sB0, cn_l, cn_r, Option.toList, List.cons_append, List.nil_append, if_true, if_false, true_and, and_true, or_false, false_or, true_or, or_true, not_false_eq_true, not_true_eq_false, and_false, false_and, zb_0, zb_1, q10, k0, k8, k13, p1, p2, p3, p4, p5, p6, p7, p8, p9, q1, q2, q3, q4, e2, e3, e4, t1, t2, t3, t4, t5, t6, t7, t9, t10, t11, t12, t14, t15, t16, le8 h8, c99, c98, c, nQ_sub, nQ_div, h7, e0, rX_n, rX_s, x1, g26_13, g26_35, g26_47, g26_54]
/-- a day's growth: refused or not -/
theorem c19g (h : ShS σ b) (hR : RlC d f U) {u g z : Nat} (hu : u < 6) (hg : g < 3) (hz : z ≤ 5000) : ∃ d' ρ, DoM 19 [.ref b, .int (nQ u), .int (nQ g), .int (nQ z)] (sB 17 σ b d) = some (.inl (some (.int (nQ ρ))), sB 17 σ b d') ∧ ρ ≤ 8 ∧ ((ρ = 0 ∧ (frF f u ∨ caN f (2 * u) (U (2 * u)) (nQ z) (ovF f (f (281 + 2 * u)) (f 0) 0) + caN f (2 * (6 + g)) (U (2 * (6 + g))) (nQ z) (ovF f (f (281 + 2 * (6 + g))) (f 0) 0) = 0) ∧ RlC d' (rAU f (chU (chU U u (nQ z) (nQ 0)) (6 + g) (nQ z) (nQ 0)) 18) (chU (chU U u (nQ z) (nQ 0)) (6 + g) (nQ z) (nQ 0))) ∨ (¬ ρ = 0 ∧ ¬ frF f u ∧ 0 < caN f (2 * u) (U (2 * u)) (nQ z) (ovF f (f (281 + 2 * u)) (f 0) 0) + caN f (2 * (6 + g)) (U (2 * (6 + g))) (nQ z) (ovF f (f (281 + 2 * (6 + g))) (f 0) 0))) := by
  have k0 := h.2.1.1
  have r23 := c23g h hR hu hg hz
  have l0 : caN f (2 * u) (U (2 * u)) (nQ z) (ovF f (f (281 + 2 * u)) (f 0) 0) ≤ 2 := ca_le _ _ _ _ _
  have l2 : caN f (2 * (6 + g)) (U (2 * (6 + g))) (nQ z) (ovF f (f (281 + 2 * (6 + g))) (f 0) 0) ≤ 2 := ca_le _ _ _ _ _
  have hR3 := Rl_ch (Rl_ch hR (nQ z) (nQ 0) (a := u) (by omega)) (nQ z) (nQ 0) (a := 6 + g) (by omega)
  obtain ⟨d1, x1, x2, x3⟩ := c27 h hR3
  generalize caN f (2 * u) (U (2 * u)) (nQ z) (ovF f (f (281 + 2 * u)) (f 0) 0) = C0 at *
  generalize caN f (2 * (6 + g)) (U (2 * (6 + g))) (nQ z) (ovF f (f (281 + 2 * (6 + g))) (f 0) 0) = C2 at *
  by_cases ha : frF f u ∨ C0 + C2 = 0
  · have e0 : (if frF f u then 0 else if 0 < C0 then C0 else if 0 < C2 then 4 + C2 else 0) = 0 := by
      by_cases c : frF f u
      · rw [if_pos c]
      · have : C0 + C2 = 0 := ha.resolve_left c
        rw [if_neg c, if_neg (by omega), if_neg (by omega)]
    rw [e0] at r23
    refine ⟨d1, 0, ?_, by decide, Or.inl ⟨rfl, ha, x2⟩⟩
    refine (g19_0).trans ?_
    simp (disch := omega) only [aOk, eq_self, tk_sB, pr_sB, tk_wr, pr_wr, nQ_nat, nQ_neg, nQ_add, nQ_mul, nQ_lt, leF, ltT, ltF, rd_sB, rd_sB0, wr_sB, wr_sB0, cn_l, cn_r, Option.toList, List.cons_append, List.nil_append, if_true, if_false, true_and, and_true, or_false, false_or, true_or, or_true, not_false_eq_true, not_true_eq_false, and_false, false_and, zb_0, zb_1, q10, k0, r23, c99, c22 h, x1, g19_10, g19_25, g19_35, g19_40, g19_45, g19_49]
  · have hnf : ¬ frF f u := fun z => ha (Or.inl z)
    have hc : 0 < C0 + C2 := by have := fun z => ha (Or.inr z); omega
    obtain ⟨ρ, hρ, h1, h8⟩ : ∃ ρ, (if frF f u then 0 else if 0 < C0 then C0 else if 0 < C2 then 4 + C2 else 0) = ρ ∧ 1 ≤ ρ ∧ ρ ≤ 8 := by
      refine ⟨_, rfl, ?_, ?_⟩
      · rw [if_neg hnf]
        split
        · omega
        · split <;> omega
      · rw [if_neg hnf]
        split
        · omega
        · split <;> omega
    rw [hρ] at r23
    obtain ⟨d2, y1⟩ := c26g h hR hu hg h1 h8
    have hq : (nQ ρ = nQ 0) = False := by rw [nQ_eq (by omega) (by decide)]; exact eq_false (by omega)
    refine ⟨d2, ρ, ?_, h8, Or.inr ⟨by omega, hnf, hc⟩⟩
    refine (g19_0).trans ?_
    simp (disch := omega) only [aOk, eq_self, tk_sB, pr_sB, tk_wr, pr_wr, nQ_nat, nQ_neg, nQ_add, nQ_mul, nQ_lt, leF, ltT, ltF, rd_sB, rd_sB0, wr_sB, wr_sB0, cn_l, cn_r, Option.toList, List.cons_append, List.nil_append, if_true, if_false, true_and, and_true, or_false, false_or, true_or, or_true, not_false_eq_true, not_true_eq_false, and_false, false_and, zb_0, zb_1, q10, k0, r23, hq, y1, g19_10, g19_25, g19_35, g19_40, g19_45, g19_49]
end Ga
section Gb
variable {L : Nat} {xs : Nat → Int32} {τ : Mem}
theorem ca_cg {f f' : Nat → Int32} (k : Nat) (us by' st dy : Int32) (h1 : f' (263 + k) = f (263 + k)) (h2 : f' (245 + k) = f (245 + k)) (h3 : f' 1 = f 1) : caN f' k us by' (ovF f' st dy 0) = caN f k us by' (ovF f st dy 0) := by
  unfold caN ovF
  simp only [Nat.add_zero, h1, h2, h3]
theorem c77_l (w1 : tkM τ 8 = (1, 4)) (w2 : prM τ 8 1 = 26) (hs : ShS τ 26) {f : Nat → Int32} {u g z : Nat} (hu : u < 6) (hg : g < 3) (hz : z ≤ 5000) : ∀ (m i : Nat) (D : Nat → Nat → Int32) (fi Ui : Nat → Int32), i + m = 401 → RlC D fi Ui → (∀ j, 0 < j → j < 281 → fi j = f j) → fi 0 + nQ 1 = f 0 + nQ i → ∃ D', RuM 77 (44, [some (.ref 8), some (.int (nQ u)), some (.int (nQ g)), some (.int (nQ z)), some (.int (nQ i))], [], 2, 12) (sB 17 τ 26 D) = some (.inl (some (.int (if frF f u then -1 else drF f u g (nQ z) m i (Ui (2 * u)) (Ui (2 * (6 + g))) (fi (281 + 2 * u)) (fi (281 + 2 * (6 + g)))))), sB 17 τ 26 D') := by
  have k0 := hs.2.1.1
  intro m
  induction m with
  | zero =>
    intro i D fi Ui e hR hlo hd
    obtain rfl : i = 401 := e
    refine ⟨D, ?_⟩
    rw [g77_44]
    have e0 : (if frF f u then -1 else drF f u g (nQ z) 0 401 (Ui (2 * u)) (Ui (2 * (6 + g))) (fi (281 + 2 * u)) (fi (281 + 2 * (6 + g)))) = (-1 : Int32) := by
      split <;> rfl
    rw [e0]
    simp (disch := omega) only [aOk, eq_self, tk_sB, pr_sB, tk_wr, pr_wr, nQ_nat, nQ_neg, nQ_add, nQ_mul, nQ_lt, leF, ltT, ltF, rd_sB, rd_sB0, wr_sB, wr_sB0, cn_l, cn_r, Option.toList, List.cons_append, List.nil_append, if_true, if_false, true_and, and_true, or_false, false_or, true_or, or_true, not_false_eq_true, not_true_eq_false, and_false, false_and, zb_0, zb_1, q10]
  | succ m ih =>
    intro i D fi Ui e hR hlo hd
    have a0 := hR.1.1
    have hR1 := Rl_day hR (fi 0 + nQ 1)
    have ed : up fi 0 (fi 0 + nQ 1) 0 = f 0 + nQ i := by rw [up_s, hd]
    have hlo1 : ∀ j, 0 < j → j < 281 → up fi 0 (fi 0 + nQ 1) j = f j := fun j h1 h2 => by rw [up_n (by omega)]; exact hlo j h1 h2
    have efr : frF (up fi 0 (fi 0 + nQ 1)) u = frF f u := by
      unfold frF
      rw [hlo1 3 (by decide) (by decide)]
    obtain ⟨d', ρ, y1, y2, y3⟩ := c19g hs hR1 hu hg hz
    have es : ∀ k, up fi 0 (fi 0 + nQ 1) (281 + k) = fi (281 + k) := fun k => up_n (by omega)
    have ec : ∀ k us, k < 18 → caN (up fi 0 (fi 0 + nQ 1)) k us (nQ z) (ovF (up fi 0 (fi 0 + nQ 1)) (up fi 0 (fi 0 + nQ 1) (281 + k)) (up fi 0 (fi 0 + nQ 1) 0) 0) = caN f k us (nQ z) (ovF f (fi (281 + k)) (f 0 + nQ i) 0) := fun k us hk => by
      rw [es, ed]
      exact ca_cg k us _ _ _ (hlo1 _ (by omega) (by omega)) (hlo1 _ (by omega) (by omega)) (hlo1 1 (by decide) (by decide))
    rw [ec _ _ (by omega), ec _ _ (by omega)] at y3
    rw [efr] at y3
    have X : RuM 77 (44, [some (.ref 8), some (.int (nQ u)), some (.int (nQ g)), some (.int (nQ z)), some (.int (nQ i))], [], 2, 12) (sB 17 τ 26 D) = RuM 77 (75, [some (.ref 8), some (.int (nQ u)), some (.int (nQ g)), some (.int (nQ z)), some (.int (nQ i))], [.int (nQ ρ)], 2, 12) (sB 17 τ 26 d') := by
      rw [g77_44]
      simp (disch := omega) only [aOk, eq_self, tk_sB, pr_sB, tk_wr, pr_wr, nQ_nat, nQ_neg, nQ_add, nQ_mul, nQ_lt, leF, ltT, ltF, rd_sB, rd_sB0, wr_sB, wr_sB0, cn_l, cn_r, Option.toList, List.cons_append, List.nil_append, if_true, if_false, true_and, and_true, or_false, false_or, true_or, or_true, not_false_eq_true, not_true_eq_false, and_false, false_and, zb_0, zb_1, q10, w1, w2, k0, a0, y1, g77_65]
    rw [X, g77_75]
    rcases y3 with ⟨rfl, hacc, hR2⟩ | ⟨hρ, hnf, hc⟩
    · obtain ⟨D', u1⟩ := ih (i + 1) d' _ _ (by omega) hR2 (fun j h1 h2 => by rw [rAU_lo _ _ h2 18 (Nat.le_refl _), hlo1 j h1 h2]) (by
        rw [rAU_lo _ _ (by decide) 18 (Nat.le_refl _), ed, Int32.add_assoc, nQ_add])
      refine ⟨D', ?_⟩
      rw [if_pos rfl, nQ_add, u1]
      by_cases hf : frF f u
      · rw [if_pos hf, if_pos hf]
      · rw [if_neg hf, if_neg hf]
        have hc0 := hacc.resolve_left hf
        have ek : ∀ k, k < 18 → rAU (up fi 0 (fi 0 + nQ 1)) (chU (chU Ui u (nQ z) (nQ 0)) (6 + g) (nQ z) (nQ 0)) 18 (281 + k) = rwF f k (chU (chU Ui u (nQ z) (nQ 0)) (6 + g) (nQ z) (nQ 0) k) (fi (281 + k)) (f 0 + nQ i) := fun k hk => by
          rw [rAU_st _ _ hk 18 (Nat.le_refl _), if_pos hk, es, ed]
          unfold rwF
          rw [hlo1 (245 + k) (by omega) (by omega)]
        have c1 : chU (chU Ui u (nQ z) (nQ 0)) (6 + g) (nQ z) (nQ 0) (2 * u) = Ui (2 * u) + nQ z := by
          rw [chU_k, chU_k]
          unfold dlt
          rw [if_pos (by omega), if_pos (by omega), if_neg (by omega), z_r]
        have c2' : chU (chU Ui u (nQ z) (nQ 0)) (6 + g) (nQ z) (nQ 0) (2 * (6 + g)) = Ui (2 * (6 + g)) + nQ z := by
          rw [chU_k, chU_k]
          unfold dlt
          rw [if_neg (by omega), if_pos (by omega), if_pos (by omega), z_r]
        rw [ek _ (by omega), ek _ (by omega), c1, c2']
        show _ = some (Sum.inl (some (Value.int (if 0 < caN f (2 * u) (Ui (2 * u)) (nQ z) (ovF f (fi (281 + 2 * u)) (f 0 + nQ i) 0) + caN f (2 * (6 + g)) (Ui (2 * (6 + g))) (nQ z) (ovF f (fi (281 + 2 * (6 + g))) (f 0 + nQ i) 0) then nQ i else drF f u g (nQ z) m (i + 1) (Ui (2 * u) + nQ z) (Ui (2 * (6 + g)) + nQ z) (rwF f (2 * u) (Ui (2 * u) + nQ z) (fi (281 + 2 * u)) (f 0 + nQ i)) (rwF f (2 * (6 + g)) (Ui (2 * (6 + g)) + nQ z) (fi (281 + 2 * (6 + g))) (f 0 + nQ i))))), _)
        rw [if_neg (by rw [hc0]; exact Nat.lt_irrefl 0)]
    · refine ⟨d', ?_⟩
      have hq : ¬ nQ ρ = nQ 0 := by rw [nQ_eq (by omega) (by decide)]; exact hρ
      rw [if_neg hq, if_neg hnf]
      show _ = some (Sum.inl (some (Value.int (if 0 < caN f (2 * u) (Ui (2 * u)) (nQ z) (ovF f (fi (281 + 2 * u)) (f 0 + nQ i) 0) + caN f (2 * (6 + g)) (Ui (2 * (6 + g))) (nQ z) (ovF f (fi (281 + 2 * (6 + g))) (f 0 + nQ i) 0) then nQ i else _))), _)
      rw [if_pos hc]
theorem s77 (h : RW L xs τ) (v w x : Int32) : StW L xs 219 179 [.int v, .int w, .int x] τ := by
  obtain ⟨n, hR, hF, hI⟩ := RW_n h
  have hM : ShM τ 186 := h.1.1.2.2.2
  have w1 : tkM τ 8 = (1, 4) := h.1.1.1.1
  have w2 : prM τ 8 0 = 9 := h.1.1.1.2.1
  have w0 : tkM τ 193 = (5, 1) := h.1.1.2.2.1.2.2.2.2.2.2.2.2.2
  have hs : ShS τ 9 := h.1.1.2.1.1
  have w3 : prM τ 8 1 = 26 := h.1.1.1.2.2.1
  have ht : ShS τ 26 := h.1.1.2.1.2.1
  by_cases hx : inP v (nQ 0) (nQ 5) ∧ inP w (nQ 0) (nQ 2)
  · by_cases hz : inP x (nQ 1) (nQ 5000)
    · obtain ⟨u, hu, rfl⟩ := in_ex hx.1 (by decide)
      obtain ⟨g, hg, rfl⟩ := in_ex hx.2 (by decide)
      obtain ⟨z, hz5, rfl⟩ : ∃ z, z ≤ 5000 ∧ x = nQ z := by
        have h1 : ¬ x.toInt < (nQ 1).toInt := fun z => hz.1 (Int32.lt_iff_toInt_lt.mpr z)
        have h2 : ¬ (nQ 5000).toInt < x.toInt := fun z => hz.2 (Int32.lt_iff_toInt_lt.mpr z)
        rw [nQ_int (by decide)] at h1 h2
        refine ⟨x.toInt.toNat, by omega, ?_⟩
        apply Int32.toInt_inj.mp
        rw [nQ_int (by omega)]
        omega
      obtain ⟨d', y1, y2⟩ := c15 (σ := τ) (b := 26) (a := 9) (d := rw_ τ 26) ht hs (by omega) (RS_bool ⟨n, hR, hF, hI⟩)
      rw [sB_rw] at y1
      obtain ⟨n2, hR2, hF2, hI2⟩ := RS_eq ⟨n, hR, hF, hI⟩ y2
      have en : n2 = n := by
        have e1 := hF2.2.1
        rw [hF.2.1, nQ_eq (by have := hF.2.2.1; omega) (by have := hF2.2.2.1; omega)] at e1
        exact e1.symm
      subst en
      obtain ⟨D', u1⟩ := c77_l w1 w3 ht (f := rdM τ 187) (u := u) (g := g) (z := z) (by omega) (by omega) hz5 400 1 d' (rdM τ 187) _ rfl hR2 (fun _ _ _ => rfl) rfl
      have hc : DoM 77 [.ref 8, .int (nQ u), .int (nQ g), .int (nQ z)] τ = some (.inl (some (.int (if frF (rdM τ 187) u then -1 else drF (rdM τ 187) u g (nQ z) 400 1 (usF (rdM τ 187) (nQ u) 0 n2) (usF (rdM τ 187) (nQ (6 + g)) 0 n2) (rdM τ 187 (281 + 2 * u)) (rdM τ 187 (281 + 2 * (6 + g)))))), sB 17 τ 26 D') := by
        rw [show 2 * u / 2 = u by omega, show 2 * u - u * 2 = 0 by omega, show 2 * (6 + g) / 2 = 6 + g by omega, show 2 * (6 + g) - (6 + g) * 2 = 0 by omega] at u1
        rw [← u1]
        refine (g77_0).trans ?_
        simp (disch := omega) only [cn_l, cn_r, Option.toList, List.cons_append, List.nil_append, if_true, if_false, tk_sB, pr_sB, c87, c88, eq_true hx.1, eq_true hx.2, hz.1, hz.2, w1, w2, w3, ht.2.1.1, y1, g77_4, g77_8, g77_41]
      have hcl : ClQ τ (sB 17 τ 26 D') := ⟨rfl, rfl, fun v hv => rdf_out (by omega), by rw [rdf_out (by omega)]⟩
      exact StW_Q h hcl (w219_r w1 (show tkM (sB 17 τ 26 D') 193 = (5, 1) from w0) hc) (m179_0 (σ := wrM (sB 17 τ 26 D') 193 0 _) (d := rw_ τ 186) hM hF.2.1 hF.2.2.1 (by omega) (by omega) hz) (Md_th _) rfl
    · refine StW_E h (k := 2) (by decide) (by decide) (w219_E2 w1 ?_) (m179_2 hM hx.1 hx.2 hz)
      refine (g77_0).trans ?_
      by_cases h1 : x < nQ 1
      · simp only [cn_l, cn_r, Option.toList, List.cons_append, List.nil_append, if_true, if_false, tk_sB, pr_sB, c87, c88, eq_true hx.1, eq_true hx.2, h1, g77_4, g77_8, g77_20]
      · have h2 : nQ 5000 < x := Classical.byContradiction fun z => hz ⟨h1, z⟩
        simp only [cn_l, cn_r, Option.toList, List.cons_append, List.nil_append, if_true, if_false, tk_sB, pr_sB, c87, c88, eq_true hx.1, eq_true hx.2, h1, h2, g77_4, g77_8, g77_20]
  · refine StW_E h (k := 1) (by decide) (by decide) (w219_E1 w1 ?_) (m179_1 hM hx)
    refine (g77_0).trans ?_
    rcases Classical.propComplete (inP v (nQ 0) (nQ 5)) with e1 | e1
    · rcases Classical.propComplete (inP w (nQ 0) (nQ 2)) with e2 | e2
      · exact absurd ⟨of_eq_true e1, of_eq_true e2⟩ hx
      · simp only [cn_l, cn_r, Option.toList, List.cons_append, List.nil_append, if_true, if_false, tk_sB, pr_sB, c87, c88, e1, e2, g77_4]
    · simp only [cn_l, cn_r, Option.toList, List.cons_append, List.nil_append, if_true, if_false, tk_sB, pr_sB, c87, e1]
end Gb
