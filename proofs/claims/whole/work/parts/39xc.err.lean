/-! The error position, on both sides. -/
/-- what is found behind a command -/
def fiN (t : Nat → Nat) (L m q : Nat) : Nat × Bool := if q = L then (L, true) else if sgN t L q = 59 then ivN t L m (q + 1) else (q, false)
section Db
variable {σ : Mem} {b : Nat} {d : Nat → Nat → Int32} {t : Nat → Nat} {L : Nat}
theorem c37_l (h : ShT σ b) (hS : StR σ) : ∀ (m q i : Nat) (d : Nat → Nat → Int32), TxC d t L → d 0 2 = nQ q → q ≤ L → 100 < q + 1 + m → 2 * i ≤ q → ∃ d', RuM 37 (12, [some (.ref b), some (.int (nQ 1)), some (.int (nQ i))], [], 0, 0) (sB 3 σ b d) = some (.inl (some (.int (if (fiN t L m q).2 = true then -1 else nQ (fiN t L m q).1))), sB 3 σ b d') ∧ (∀ u, ¬ u = 0 → ¬ u = 2 → d' u = d u) ∧ d' 0 1 = d 0 1 := by
  have h0 := h.2.1
  intro m
  induction m with
  | zero =>
    intro q i d hT hq hqL hm hi
    obtain ⟨hL, h100, hch⟩ := id hT
    have e : q = L := by omega
    refine ⟨d, ?_, fun _ _ _ => rfl, rfl⟩
    have n1 : ¬ q < L := by omega
    rw [g37_12]
    unfold fiN
    simp (disch := omega) only [aOk, eq_self, tk_sB, pr_sB, tk_wr, pr_wr, nQ_nat, nQ_neg, nQ_add, nQ_mul, nQ_lt, leF, ltT, ltF, rd_sB, rd_sB0, wr_sB, wr_sB0, cn_l, cn_r, Option.toList, List.cons_append, List.nil_append, if_true, if_false, true_and, and_true, or_false, false_or, true_or, or_true, not_false_eq_true, not_true_eq_false, and_false, false_and, zb_0, zb_1, q10, h0, hL, hq, n1, q10, e, Nat.lt_irrefl, g37_61, g37_73]
  | succ m ih =>
    intro q i d hT hq hqL hm hi
    obtain ⟨hL, h100, hch⟩ := id hT
    unfold fiN
    by_cases e : q = L
    · refine ⟨d, ?_, fun _ _ _ => rfl, rfl⟩
      rw [g37_12]
      simp (disch := omega) only [aOk, eq_self, tk_sB, pr_sB, tk_wr, pr_wr, nQ_nat, nQ_neg, nQ_add, nQ_mul, nQ_lt, leF, ltT, ltF, rd_sB, rd_sB0, wr_sB, wr_sB0, cn_l, cn_r, Option.toList, List.cons_append, List.nil_append, if_true, if_false, true_and, and_true, or_false, false_or, true_or, or_true, not_false_eq_true, not_true_eq_false, and_false, false_and, zb_0, zb_1, q10, h0, hL, hq, q10, e, Nat.lt_irrefl, g37_61, g37_73]
    · have hlt : q < L := by omega
      have hi100 : i < 100 := by omega
      have e40 := c40 h hT hq (by omega) (c := 59) (by decide) (by decide)
      by_cases cs : sgN t L q = 59
      · obtain ⟨d1, x1, x2, x3, x4, x5⟩ := c38 (d := acF d (q + 1)) h hS (t := t) (L := L) hT (p := q + 1) rfl (by omega)
        obtain ⟨hle, hvs⟩ := rcN_le (t := t) (L := L) (p := q + 1) (by omega)
        have hT1 : TxC d1 t L := ⟨x3.trans hL, h100, fun i hi => by rw [x2 1 (by decide) (by decide)]; exact hch i hi⟩
        have wu : ∀ u, ¬ u = 0 → ¬ u = 2 → d1 u = d u := fun u h1 h2 => (x2 u h1 h2).trans (rX_n h1)
        cases hr : (rcN t L (q + 1)).2 with
        | none =>
          rw [hr] at x1
          refine ⟨d1, ?_, wu, x3⟩
          rw [g37_12, if_neg e, if_pos cs]
          unfold ivN
          simp (disch := omega) only [cs, aOk, eq_self, tk_sB, pr_sB, tk_wr, pr_wr, nQ_nat, nQ_neg, nQ_add, nQ_mul, nQ_lt, leF, ltT, ltF, rd_sB, rd_sB0, wr_sB, wr_sB0, cn_l, cn_r, Option.toList, List.cons_append, List.nil_append, if_true, if_false, true_and, and_true, or_false, false_or, true_or, or_true, not_false_eq_true, not_true_eq_false, and_false, false_and, zb_0, zb_1, q10, h0, hL, hq, hlt, hi100, q10, e40, x1, x4, hr, Option.isSome_none, Bool.false_eq_true, g37_39, g37_46, g37_53, g37_54, g37_12, g37_61, g37_73]
        | some vs =>
          have hv := hvs vs hr
          rw [hr] at x1
          obtain ⟨d2, y1, y2, y3⟩ := ih (rcN t L (q + 1)).1 (i + 1) d1 hT1 x4 hle.2 (by omega) (by omega)
          refine ⟨d2, ?_, fun u h1 h2 => (y2 u h1 h2).trans (wu u h1 h2), y3.trans x3⟩
          have ef : ivN t L (m + 1) (q + 1) = fiN t L m (rcN t L (q + 1)).1 := by
            show (match (rcN t L (q + 1)).2 with
              | none => ((rcN t L (q + 1)).1, false)
              | some _ => if (rcN t L (q + 1)).1 = L then (L, true) else if sgN t L (rcN t L (q + 1)).1 = 59 then ivN t L m ((rcN t L (q + 1)).1 + 1) else ((rcN t L (q + 1)).1, false)) = _
            rw [hr]
            rfl
          rw [g37_12, if_neg e, if_pos cs, ef]
          simp (disch := omega) only [cs, aOk, eq_self, tk_sB, pr_sB, tk_wr, pr_wr, nQ_nat, nQ_neg, nQ_add, nQ_mul, nQ_lt, leF, ltT, ltF, rd_sB, rd_sB0, wr_sB, wr_sB0, cn_l, cn_r, Option.toList, List.cons_append, List.nil_append, if_true, if_false, true_and, and_true, or_false, false_or, true_or, or_true, not_false_eq_true, not_true_eq_false, and_false, false_and, zb_0, zb_1, q10, h0, hL, hq, hlt, hi100, q10, e40, x1, Option.isSome_some, g37_39, g37_46, g37_54]
          exact y1
      · refine ⟨d, ?_, fun _ _ _ => rfl, rfl⟩
        rw [if_neg cs, if_neg cs, ac_i hq] at e40
        have e53 : RuM 37 (53, [some (.ref b), some (.int (nQ 1)), some (.int (nQ i))], [], 0, 0) (sB 3 σ b d) = some (.inl (some (.int (nQ q))), sB 3 σ b d) := by
          rw [g37_53, g37_54, g37_12]
          simp (disch := omega) only [aOk, eq_self, tk_sB, pr_sB, tk_wr, pr_wr, nQ_nat, nQ_neg, nQ_add, nQ_mul, nQ_lt, leF, ltT, ltF, rd_sB, rd_sB0, wr_sB, wr_sB0, cn_l, cn_r, Option.toList, List.cons_append, List.nil_append, if_true, if_false, true_and, and_true, or_false, false_or, true_or, or_true, not_false_eq_true, not_true_eq_false, and_false, false_and, zb_0, zb_1, q10, h0, hq, g37_61, g37_73]
        rw [g37_12, if_neg e, if_neg cs]
        simp (disch := omega) only [aOk, eq_self, tk_sB, pr_sB, tk_wr, pr_wr, nQ_nat, nQ_neg, nQ_add, nQ_mul, nQ_lt, leF, ltT, ltF, rd_sB, rd_sB0, wr_sB, wr_sB0, cn_l, cn_r, Option.toList, List.cons_append, List.nil_append, if_true, if_false, true_and, and_true, or_false, false_or, true_or, or_true, not_false_eq_true, not_true_eq_false, and_false, false_and, zb_0, zb_1, q10, h0, hL, hq, hlt, hi100, q10, e40, e53, Bool.false_eq_true, g37_39]
theorem c37 (h : ShT σ b) (hS : StR σ) (hT : TxC d t L) : ∃ d', DoM 37 [.ref b] (sB 3 σ b d) = some (.inl (some (.int (if (ivN t L 101 0).2 = true then -1 else nQ (ivN t L 101 0).1))), sB 3 σ b d') ∧ (∀ u, ¬ u = 0 → ¬ u = 2 → d' u = d u) ∧ d' 0 1 = d 0 1 := by
  have h0 := h.2.1
  obtain ⟨hL, h100, hch⟩ := id hT
  obtain ⟨d1, x1, x2, x3, x4, x5⟩ := c38 (d := acF d 0) h hS (t := t) (L := L) hT (p := 0) rfl (by omega)
  obtain ⟨hle, hvs⟩ := rcN_le (t := t) (L := L) (p := 0) (by omega)
  have hT1 : TxC d1 t L := ⟨x3.trans hL, h100, fun i hi => by rw [x2 1 (by decide) (by decide)]; exact hch i hi⟩
  have wu : ∀ u, ¬ u = 0 → ¬ u = 2 → d1 u = d u := fun u h1 h2 => (x2 u h1 h2).trans (rX_n h1)
  cases hr : (rcN t L 0).2 with
  | none =>
    rw [hr] at x1
    refine ⟨d1, ?_, wu, x3⟩
    have ef : ivN t L 101 0 = ((rcN t L 0).1, false) := by
      show (match (rcN t L 0).2 with
        | none => ((rcN t L 0).1, false)
        | some _ => if (rcN t L 0).1 = L then (L, true) else if sgN t L (rcN t L 0).1 = 59 then ivN t L 100 ((rcN t L 0).1 + 1) else ((rcN t L 0).1, false)) = _
      rw [hr]
    rw [ef]
    refine (g37_0).trans ?_
    simp (disch := omega) only [aOk, eq_self, tk_sB, pr_sB, tk_wr, pr_wr, nQ_nat, nQ_neg, nQ_add, nQ_mul, nQ_lt, leF, ltT, ltF, rd_sB, rd_sB0, wr_sB, wr_sB0, cn_l, cn_r, Option.toList, List.cons_append, List.nil_append, if_true, if_false, true_and, and_true, or_false, false_or, true_or, or_true, not_false_eq_true, not_true_eq_false, and_false, false_and, zb_0, zb_1, q10, h0, x1, x4, Option.isSome_none, Bool.false_eq_true, g37_5, g37_9, g37_12, g37_39, g37_46, g37_53, g37_54, g37_61, g37_73]
  | some vs =>
    have hv := hvs vs hr
    rw [hr] at x1
    obtain ⟨d2, y1, y2, y3⟩ := c37_l (t := t) h hS 100 (rcN t L 0).1 1 d1 hT1 x4 hle.2 (by omega) (by omega)
    refine ⟨d2, ?_, fun u h1 h2 => (y2 u h1 h2).trans (wu u h1 h2), y3.trans x3⟩
    have ef : ivN t L 101 0 = fiN t L 100 (rcN t L 0).1 := by
      show (match (rcN t L 0).2 with
        | none => ((rcN t L 0).1, false)
        | some _ => if (rcN t L 0).1 = L then (L, true) else if sgN t L (rcN t L 0).1 = 59 then ivN t L 100 ((rcN t L 0).1 + 1) else ((rcN t L 0).1, false)) = _
      rw [hr]
      rfl
    rw [ef, ← y1]
    refine (g37_0).trans ?_
    simp (disch := omega) only [aOk, eq_self, tk_sB, pr_sB, tk_wr, pr_wr, nQ_nat, nQ_neg, nQ_add, nQ_mul, nQ_lt, leF, ltT, ltF, rd_sB, rd_sB0, wr_sB, wr_sB0, cn_l, cn_r, Option.toList, List.cons_append, List.nil_append, if_true, if_false, true_and, and_true, or_false, false_or, true_or, or_true, not_false_eq_true, not_true_eq_false, and_false, false_and, zb_0, zb_1, q10, h0, x1, Option.isSome_some, g37_5, g37_9]
end Db
section Dc
variable {L : Nat} {xs : Nat → Int32} {τ : Mem}
theorem sv_q : ∀ v, v < 8 → ∀ j, j < (svM v).length → ∀ k, (svM v)[j]? = some k → True := fun _ _ _ _ _ _ => trivial
theorem St_R (h : StX L xs τ) : StR τ := by
  intro l
  have h3 := h.2
  unfold rfN gtL
  have K : ∀ (v : Nat) (ns : List Nat), 2 ≤ v → v < 8 → (svM v).length = ns.length → (∀ j, j < ns.length → (svM v).getD j 0 = nQ (ns.getD j 0)) → tkM τ v = (2, ns.length) ∧ ∀ j, j < ns.length → rdM τ v j = nQ (ns.getD j 0) := by
    intro v ns h1 h2 h4 h5
    obtain ⟨e1, e2⟩ := h3 v h1 h2
    exact ⟨by rw [e1, h4], fun j hj => by rw [e2 j]; exact h5 j hj⟩
  by_cases h1 : l = 99
  · rw [if_pos h1, if_pos h1]
    exact K 2 _ (by decide) (by decide) rfl (by decide)
  rw [if_neg h1, if_neg h1]
  by_cases h2 : l = 100
  · rw [if_pos h2, if_neg (by omega), if_pos h2]
    exact K 4 _ (by decide) (by decide) rfl (by decide)
  rw [if_neg h2]
  by_cases h3' : l = 109
  · rw [if_pos h3', if_neg (by omega), if_neg (by omega), if_pos h3']
    exact K 5 _ (by decide) (by decide) rfl (by decide)
  rw [if_neg h3']
  by_cases h4 : l = 110
  · rw [if_pos h4, if_neg (by omega), if_neg (by omega), if_neg (by omega), if_pos h4]
    exact K 6 _ (by decide) (by decide) rfl (by decide)
  rw [if_neg h4]
  by_cases h5 : l = 114
  · rw [if_pos h5, if_pos h5]
    exact K 3 _ (by decide) (by decide) rfl (by decide)
  rw [if_neg h5, if_neg h5, if_neg h2, if_neg h3', if_neg h4]
  exact K 7 _ (by decide) (by decide) rfl (by decide)
theorem Wd_T (h : WdX τ) : ShT τ 182 := ⟨by decide, h.2.2.1.2.2.2.1, h.2.2.1.2.2.2.2.1, h.2.2.1.2.2.2.2.2.1, h.2.2.1.2.2.2.2.2.2.1, h.2.2.1.2.2.2.2.2.2.2.1⟩
theorem s56 (h : RW L xs τ) : StN L xs 56 151 τ := by
  have hM : ShM τ 186 := h.1.1.2.2.2
  have w1 : tkM τ 8 = (1, 4) := h.1.1.1.1
  have w3 : prM τ 8 6 = 182 := h.1.1.1.2.2.2.2.2.2.1
  have w4 : tkM τ 182 = (1, 3) := h.1.1.2.2.1.2.2.2.1
  obtain ⟨t, N, hT, a4, a5⟩ := id h.2.2.2
  have hTC : TxC (rw_ τ 182) t N := ⟨a4, hT.2.1, fun i hi => ⟨a5 i hi, (hT.2.2 i hi).2⟩⟩
  obtain ⟨d1, x1, x2, x3⟩ := c37 (d := rw_ τ 182) (Wd_T h.1.1) (St_R h.1.2) hTC
  rw [sB_rw] at x1
  obtain ⟨D, y1, y2, y3⟩ := m151 (σ := sB 3 τ 182 d1) (d := rw_ τ 186) hM hT
  rw [sB_rw2 (fun v h1 h2 => by rw [rdf_out (by omega)])] at y1
  have hc : DoM 56 [.ref 8] τ = some (.inl (some (.int (if (ivN t N 101 0).2 = true then -1 else nQ (ivN t N 101 0).1))), sB 3 τ 182 d1) := by
    refine (g56_0).trans ?_
    simp (disch := omega) only [w1, w3, w4, if_true, x1, cn_l, Option.toList, List.cons_append, List.nil_append, g56_7]
  have r0 : rdM (sB 7 (sB 3 τ 182 d1) 186 D) 186 = D 0 := rdf_in (u := 0) (b := 186) (by decide)
  refine ⟨_, _, _, hc, y1, EqI_s _ _, RW_same h rfl rfl (fun v hv => ?_) ?_ ?_ ?_ ?_⟩
  · by_cases e : 187 ≤ v
    · rcases (show v = 187 ∨ v = 188 ∨ v = 189 by omega) with rfl | rfl | rfl
      · exact (rdf_in (u := 1) (b := 186) (by decide)).trans (y2 1 (by decide) (by decide))
      · exact (rdf_in (u := 2) (b := 186) (by decide)).trans (y2 2 (by decide) (by decide))
      · exact (rdf_in (u := 3) (b := 186) (by decide)).trans (y2 3 (by decide) (by decide))
    · rw [rdf_out (by omega)]
      by_cases e2 : v = 183
      · subst e2
        exact (rdf_in (u := 1) (b := 182) (by decide)).trans (x2 1 (by decide) (by decide))
      · rw [rdf_out (by omega)]
  · rw [rdf_out (by omega), rdf_out (by omega)]
  · rw [rdf_out (by omega)]
    exact (congrFun (rdf_in (u := 0) (b := 182) (by decide)) 1).trans x3
  · rw [r0, y3 5 (by decide) (by decide)]
    rfl
  · rw [r0, y3 2 (by decide) (by decide)]
    rfl
end Dc
