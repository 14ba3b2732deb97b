/-! Texts executed: the model. -/
abbrev z0F : Nat → Int32 := fun _ => nQ 0
theorem re_ri (f : Nat → Int32) (n : Nat) {ri ri' : Nat → Int32} (u g : Nat) (h : ∀ e, e < 4 → ri e = ri' e) : ∀ m e, e + m = 4 → reN f n ri u g m e = reN f n ri' u g m e
  | 0, _, _ => rfl
  | m + 1, e, he => by
    have hc : ceN f n ri u g e = ceN f n ri' u g e := by
      unfold ceN
      rw [h e (by omega)]
    unfold reN
    rw [hc, re_ri f n u g h m (e + 1) (by omega)]
theorem ra_ri (f : Nat → Int32) (n : Nat) (r r' : Nat → Int32) (x y z w : Int32) (u g : Nat) : raN f n (riF r x y z w) u g = raN f n (riF r' x y z w) u g := by
  unfold raN
  rw [re_ri f n u g (ri' := riF r' x y z w) (fun e he => by
    rcases (show e = 0 ∨ e = 1 ∨ e = 2 ∨ e = 3 by omega) with rfl | rfl | rfl | rfl <;> rfl) 4 0 rfl]
theorem rf_ri {f : Nat → Int32} {n : Nat} {ri ri' : Nat → Int32} {u g : Nat} (h : raN f n ri u g = raN f n ri' u g) : rfF f n ri u g = rfF f n ri' u g := by
  unfold rfF
  rw [h]
theorem cr_ri {f : Nat → Int32} {n : Nat} {ri ri' : Nat → Int32} {u g : Nat} (h : raN f n ri u g = raN f n ri' u g) (p z : Int32) : crF f n ri u g p z = crF f n ri' u g p z := by
  unfold crF
  rw [rf_ri h, h]
theorem rs_ri {f : Nat → Int32} {n : Nat} {ri ri' : Nat → Int32} {u g : Nat} (h : raN f n ri u g = raN f n ri' u g) (i : Nat) (z : Int32) : rsF f n ri u g i z = rsF f n ri' u g i z := by
  unfold rsF
  rw [rf_ri h, h]
theorem mv_ri {f : Nat → Int32} {n : Nat} {ri ri' : Nat → Int32} {u g : Nat} (h : raN f n ri u g = raN f n ri' u g) (i : Nat) : mvF f n ri u g i = mvF f n ri' u g i := by
  unfold mvF
  rw [rf_ri h, h]
/-- what a command does to a state -/
def ExR (f : Nat → Int32) (n l : Nat) (vs : List Nat) : Option ((Nat → Int32) × Nat) → Prop
  | none => (l = 110 ∧ nQ 10000 < f 0 + nQ (vs.getD 0 0)) ∨ (l = 99 ∧ (n = 60 ∨ ∃ i, i < n ∧ f (5 + 4 * i) = nQ (100 * vs.getD 2 0 + vs.getD 3 0))) ∨ ((l = 114 ∨ l = 100 ∨ l = 109) ∧ ∀ i, i < n → ¬ f (5 + 4 * i) = nQ (100 * vs.getD 0 0 + vs.getD 1 0))
  | some (f1, n1) => (l = 110 ∧ ¬ nQ 10000 < f 0 + nQ (vs.getD 0 0) ∧ f1 = dyR f (vs.getD 0 0) ∧ n1 = n) ∨
    (l = 99 ∧ n < 60 ∧ (∀ i, i < n → ¬ f (5 + 4 * i) = nQ (100 * vs.getD 2 0 + vs.getD 3 0)) ∧ f1 = crF f n (riF z0F (nQ (vs.getD 4 0)) (nQ 1) (nQ (vs.getD 4 0)) (nQ 1)) (vs.getD 0 0) (vs.getD 1 0) (nQ (100 * vs.getD 2 0 + vs.getD 3 0)) (nQ (vs.getD 4 0)) ∧ n1 = crN f n (riF z0F (nQ (vs.getD 4 0)) (nQ 1) (nQ (vs.getD 4 0)) (nQ 1)) (vs.getD 0 0) (vs.getD 1 0)) ∨
    (∃ j u g s, (j < n ∧ f (5 + 4 * j) = nQ (100 * vs.getD 0 0 + vs.getD 1 0)) ∧ (u < 6 ∧ g < 3 ∧ s ≤ 5000 ∧ f (5 + 4 * j + 1) = nQ u ∧ f (5 + 4 * j + 2) = nQ g ∧ f (5 + 4 * j + 3) = nQ s) ∧
      ((l = 114 ∧ f1 = rsF f n (riF z0F (moF f j (nQ (vs.getD 2 0))) (nQ 0) (moF f j (nQ (vs.getD 2 0))) (nQ 0)) u g j (nQ (vs.getD 2 0)) ∧ n1 = n) ∨ (l = 100 ∧ f1 = deF f n j ∧ n1 = n - 1) ∨ (l = 109 ∧ f1 = mvF f n (mrF f z0F (vs.getD 2 0) (vs.getD 3 0) j) (vs.getD 2 0) (vs.getD 3 0) j ∧ n1 = n)))
def VsO (l : Nat) (vs : List Nat) : Prop := vs.length = (gtL l).length ∧ ∀ j, j < vs.length → vs.getD j 0 ≤ (gtL l).getD j 0
theorem crE4 (f : Nat → Int32) {n : Nat} (hn : f 4 = nQ n) (h60 : n < 60) (ri : Nat → Int32) {u g : Nat} (hu : u < 6) (hg : g < 3) (p z : Int32) : crF f n ri u g p z 4 = nQ (crN f n ri u g) := by
  unfold crF crN
  split
  · rw [q_rA _ _ (by omega) 18 (Nat.le_refl _), up_s]
  · rw [rf_lo _ _ _ hu hg (by omega), hn]
theorem ex_inv {f f1 : Nat → Int32} {n n1 l : Nat} {vs : List Nat} (hn : f 4 = nQ n) (h60 : n ≤ 60) (hI : InvF f n) (hV : VsO l vs) (hE : ExR f n l vs (some (f1, n1))) : InvF f1 n1 ∧ n1 ≤ 60 ∧ f1 4 = nQ n1 ∧ ∀ i, 357 ≤ i → f1 i = f i := by
  obtain ⟨hV1, hV2⟩ := hV
  rcases hE with ⟨rfl, -, rfl, rfl⟩ | ⟨rfl, h6, hk, rfl, rfl⟩ | ⟨j, u, g, s, ⟨hj, hkey⟩, ⟨hu, hg, hs, eu, eg, es⟩, hE⟩
  · refine ⟨⟨IA_cg h60 hI.1 (fun i h1 h2 => dy_lo _ (by omega) (by omega) _), IB_cg h60 hI.2 (fun i h1 h2 => dy_lo _ (by omega) (by omega) _)⟩, h60, by rw [dy_lo _ (by decide) (by decide), hn], fun i hi => dy_hi _ hi _⟩
  · have hl : vs.length = 5 := hV1
    have a0 : vs.getD 0 0 ≤ 5 := hV2 0 (by omega)
    have a1 : vs.getD 1 0 ≤ 2 := hV2 1 (by omega)
    have a4 : vs.getD 4 0 ≤ 5000 := hV2 4 (by omega)
    refine ⟨IF_cr h6 hI _ (by omega) (by omega) a4 hk, ?_, crE4 _ hn h6 _ (by omega) (by omega) _ _, fun i hi => cr_hi _ h6 _ (by omega) (by omega) _ _ hi⟩
    unfold crN
    split <;> omega
  · rcases hE with ⟨rfl, hf, rfl⟩ | ⟨rfl, hf, en⟩ | ⟨rfl, hf, rfl⟩ <;> rw [hf]
    · have hl : vs.length = 3 := hV1
      have a2 : vs.getD 2 0 ≤ 5000 := hV2 2 (by omega)
      refine ⟨IF_rs h60 hI _ hu hg a2 hj, h60, ?_, fun i hi => rs_hi _ h60 hj _ hu hg _ hi⟩
      unfold rsF
      split
      · rw [q_rA _ _ (by omega) 18 (Nat.le_refl _), up_n (by omega), hn]
      · rw [rf_lo _ _ _ hu hg (by omega), hn]
    · rw [en]
      obtain ⟨m, rfl⟩ : ∃ m, n = m + 1 := ⟨n - 1, by omega⟩
      refine ⟨IF_de (by omega) hI hj, by omega, ?_, fun i hi => de_hi _ (by omega) hi⟩
      unfold deF deK
      rw [q_rA _ _ (by omega) 18 (Nat.le_refl _), if_neg (by omega), up_s]
    · have hl : vs.length = 4 := hV1
      have a2 : vs.getD 2 0 ≤ 5 := hV2 2 (by omega)
      have a3 : vs.getD 3 0 ≤ 2 := hV2 3 (by omega)
      refine ⟨IF_mv h60 hI _ (by omega) (by omega) hj, h60, ?_, fun i hi => mv_hi _ h60 hj _ (by omega) (by omega) hi⟩
      unfold mvF
      split
      · rw [q_rA _ _ (by omega) 18 (Nat.le_refl _), up_n (by omega), up_n (by omega), hn]
      · rw [rf_lo _ _ _ (by omega) (by omega) (by omega), hn]
theorem edC_le (f : Nat → Int32) : ∀ k, edC f k ≤ k
  | 0 => Nat.le_refl 0
  | k + 1 => by
    have := edC_le f k
    rw [edC_s]
    split <;> omega
theorem dyC_le (f : Nat → Int32) : ∀ m, dyC f m ≤ 18 * m
  | 0 => Nat.le_refl 0
  | m + 1 => by
    have h1 := dyC_le f m
    have h2 := edC_le (up (dyR f m) 0 (dyR f m 0 + nQ 1)) 18
    rw [dyC_s]
    omega
section Dd
variable {σ : Mem} {b : Nat} {d : Nat → Nat → Int32}
theorem m152_n (h : ShM σ b) {n l : Nat} {vs : List Nat} (hn : d 1 4 = nQ n) (h60 : n ≤ 60) (hI : InvF (d 1) n) (h7 : d 0 7 = nQ l) (hv : ∀ j, j < vs.length → d 4 j = nQ (vs.getD j 0)) (hV : VsO l vs) (hE : ExR (d 1) n l vs none) : DoM 152 [.ref b] (sB 7 σ b d) = some (.inl (some (.int (nQ 0))), sB 7 σ b d) := by
  obtain ⟨h8, h0, ⟨p1, p2, p3, p4, p5, p6⟩, t1, t2, t3, t4, t5, t6⟩ := id h
  obtain ⟨hV1, hV2⟩ := hV
  have n1 : ∀ a c, a ≤ 200 → c ≤ 200 → ¬ a = c → (nQ a = nQ c) = False := fun a c h1 h2 h3 => by rw [nQ_eq (by omega) (by omega)]; exact eq_false h3
  rcases hE with ⟨rfl, hE⟩ | ⟨rfl, hE⟩ | ⟨hl, hE⟩
  · have hl : vs.length = 1 := hV1
    have a0 := hv 0 (by omega)
    refine (g152_0).trans ?_
    simp (disch := omega) only [aOk, eq_self, tk_sB, pr_sB, tk_wr, pr_wr, nQ_nat, nQ_neg, nQ_add, nQ_mul, nQ_lt, leF, ltT, ltF, rd_sB, rd_sB0, wr_sB, wr_sB0, cn_l, cn_r, Option.toList, List.cons_append, List.nil_append, if_true, if_false, true_and, and_true, or_false, false_or, true_or, or_true, not_false_eq_true, not_true_eq_false, and_false, false_and, zb_0, zb_1, q10, h0, h7, p1, p4, t1, t4, a0, hE, g152_33, g152_52, g152_65, g152_66]
  · have hl : vs.length = 5 := hV1
    have a2 := hv 2 (by omega)
    have a3 := hv 3 (by omega)
    have e99 := n1 99 110 (by decide) (by decide) (by decide)
    have X : DoM 152 [.ref b] (sB 7 σ b d) = RuM 152 (81, [some (.ref b), none, none, none], [.int (nQ 2)], 0, 0) (sB 7 σ b d) := by
      refine (g152_0).trans ?_
      simp (disch := omega) only [aOk, eq_self, tk_sB, pr_sB, tk_wr, pr_wr, nQ_nat, nQ_neg, nQ_add, nQ_mul, nQ_lt, leF, ltT, ltF, rd_sB, rd_sB0, wr_sB, wr_sB0, cn_l, cn_r, Option.toList, List.cons_append, List.nil_append, if_true, if_false, true_and, and_true, or_false, false_or, true_or, or_true, not_false_eq_true, not_true_eq_false, and_false, false_and, zb_0, zb_1, q10, h0, h7, e99]
    rw [X, g152_81]
    rcases (show (∃ i, i < n ∧ d 1 (5 + 4 * i) = nQ (100 * vs.getD 2 0 + vs.getD 3 0)) ∨ (n = 60 ∧ ∀ i, i < n → ¬ d 1 (5 + 4 * i) = nQ (100 * vs.getD 2 0 + vs.getD 3 0)) by
      by_cases c : ∃ i, i < n ∧ d 1 (5 + 4 * i) = nQ (100 * vs.getD 2 0 + vs.getD 3 0)
      · exact Or.inl c
      · rcases hE with hE | hE
        · exact Or.inr ⟨hE, fun i hi e => c ⟨i, hi, e⟩⟩
        · exact absurd hE c) with ⟨i, hi, hk⟩ | ⟨e60, hk⟩
    · have e := m114_i h hn h60 hI.1.2.1 (w := nQ (vs.getD 2 0)) (x := nQ (vs.getD 3 0)) hi (by rw [nQ_mul, nQ_add]; exact hk)
      have ej := nQ_m1 (i := i) (by omega)
      simp (disch := omega) only [aOk, eq_self, tk_sB, pr_sB, tk_wr, pr_wr, nQ_nat, nQ_neg, nQ_add, nQ_mul, nQ_lt, leF, ltT, ltF, rd_sB, rd_sB0, wr_sB, wr_sB0, cn_l, cn_r, Option.toList, List.cons_append, List.nil_append, if_true, if_false, true_and, and_true, or_false, false_or, true_or, or_true, not_false_eq_true, not_true_eq_false, and_false, false_and, zb_0, zb_1, q10, h0, h7, p1, p4, t1, t4, a2, a3, e, ej, g152_100, g152_136]
    · have e := m114_n h hn h60 (w := nQ (vs.getD 2 0)) (x := nQ (vs.getD 3 0)) (fun i hi e => hk i hi (by rw [nQ_mul, nQ_add] at e; exact e))
      rw [e60] at hn
      simp (disch := omega) only [aOk, eq_self, tk_sB, pr_sB, tk_wr, pr_wr, nQ_nat, nQ_neg, nQ_add, nQ_mul, nQ_lt, leF, ltT, ltF, rd_sB, rd_sB0, wr_sB, wr_sB0, cn_l, cn_r, Option.toList, List.cons_append, List.nil_append, if_true, if_false, true_and, and_true, or_false, false_or, true_or, or_true, not_false_eq_true, not_true_eq_false, and_false, false_and, zb_0, zb_1, q10, h0, h7, p1, p4, t1, t4, a2, a3, e, hn, g152_100, g152_136]
  · have hl2 : 2 ≤ vs.length := by rw [hV1]; rcases hl with rfl | rfl | rfl <;> decide
    have a0 := hv 0 (by omega)
    have a1 := hv 1 (by omega)
    have e1 := n1 l 110 (by omega) (by decide) (by omega)
    have e2 := n1 l 99 (by omega) (by decide) (by omega)
    have e := m114_n h hn h60 (w := nQ (vs.getD 0 0)) (x := nQ (vs.getD 1 0)) (fun i hi e => hE i hi (by rw [nQ_mul, nQ_add] at e; exact e))
    refine (g152_0).trans ?_
    simp (disch := omega) only [aOk, eq_self, tk_sB, pr_sB, tk_wr, pr_wr, nQ_nat, nQ_neg, nQ_add, nQ_mul, nQ_lt, leF, ltT, ltF, rd_sB, rd_sB0, wr_sB, wr_sB0, cn_l, cn_r, Option.toList, List.cons_append, List.nil_append, if_true, if_false, true_and, and_true, or_false, false_or, true_or, or_true, not_false_eq_true, not_true_eq_false, and_false, false_and, zb_0, zb_1, q10, h0, h7, e1, e2, p1, p4, t1, t4, a0, a1, e, Nat.zero_add, g152_81, g152_100, g152_136]
theorem m152_y (h : ShM σ b) {n l n1 : Nat} {f1 : Nat → Int32} {vs : List Nat} (hn : d 1 4 = nQ n) (h60 : n ≤ 60) (hI : InvF (d 1) n) (h7 : d 0 7 = nQ l) (hv : ∀ j, j < vs.length → d 4 j = nQ (vs.getD j 0)) (hV : VsO l vs) (hE : ExR (d 1) n l vs (some (f1, n1))) : ∃ D, DoM 152 [.ref b] (sB 7 σ b d) = some (.inl (some (.int (nQ 1))), sB 7 σ b D) ∧ D 1 = f1 ∧ ∀ u, ¬ u = 1 → ¬ u = 5 → D u = d u := by
  obtain ⟨h8, h0, ⟨p1, p2, p3, p4, p5, p6⟩, t1, t2, t3, t4, t5, t6⟩ := id h
  obtain ⟨hV1, hV2⟩ := hV
  have n1' : ∀ a c, a ≤ 200 → c ≤ 200 → ¬ a = c → (nQ a = nQ c) = False := fun a c h1 h2 h3 => by rw [nQ_eq (by omega) (by omega)]; exact eq_false h3
  rcases hE with ⟨rfl, hE, rfl, rfl⟩ | ⟨rfl, h6, hk, rfl, rfl⟩ | ⟨j, u, g, s, ⟨hj, hkey⟩, ⟨hu, hg, hs, eu, eg, es⟩, hE⟩
  · have hl : vs.length = 1 := hV1
    have a0 := hv 0 (by omega)
    have b0 : vs.getD 0 0 ≤ 100 := hV2 0 (by omega)
    have e31 := m131 (d := d) h b0
    have hc : (nQ (dyC (d 1) (vs.getD 0 0)) < nQ 0) = False := by
      have : dyC (d 1) (vs.getD 0 0) ≤ 18 * vs.getD 0 0 := dyC_le _ _
      rw [nQ_lt (by omega) (by decide)]
      exact eq_false (by omega)
    refine ⟨rX d 1 (dyR (d 1) (vs.getD 0 0)), ?_, rX_s _ _ _, fun u h1 h2 => rX_n h1⟩
    refine (g152_0).trans ?_
    simp (disch := omega) only [aOk, eq_self, tk_sB, pr_sB, tk_wr, pr_wr, nQ_nat, nQ_neg, nQ_add, nQ_mul, nQ_lt, leF, ltT, ltF, rd_sB, rd_sB0, wr_sB, wr_sB0, cn_l, cn_r, Option.toList, List.cons_append, List.nil_append, if_true, if_false, true_and, and_true, or_false, false_or, true_or, or_true, not_false_eq_true, not_true_eq_false, and_false, false_and, zb_0, zb_1, q10, h0, h7, p1, p4, t1, t4, a0, hE, q10, e31, hc, g152_33, g152_48, g152_52, g152_66]
  · have hl : vs.length = 5 := hV1
    have a0 := hv 0 (by omega)
    have a1 := hv 1 (by omega)
    have a2 := hv 2 (by omega)
    have a3 := hv 3 (by omega)
    have a4 := hv 4 (by omega)
    have b0 : vs.getD 0 0 ≤ 5 := hV2 0 (by omega)
    have b1 : vs.getD 1 0 ≤ 2 := hV2 1 (by omega)
    have e99 := n1' 99 110 (by decide) (by decide) (by decide)
    have e := m114_n h hn h60 (w := nQ (vs.getD 2 0)) (x := nQ (vs.getD 3 0)) (fun i hi e => hk i hi (by rw [nQ_mul, nQ_add] at e; exact e))
    have e60 : (nQ n = nQ 60) = False := by rw [nQ_eq (by omega) (by decide)]; exact eq_false (by omega)
    have e27 := m127 h hn h6 (u := vs.getD 0 0) (g := vs.getD 1 0) (by omega) (by omega) (nQ (100 * vs.getD 2 0 + vs.getD 3 0)) (nQ (vs.getD 4 0))
    have l := ra_le (d 1) n (riF (d 5) (nQ (vs.getD 4 0)) (nQ 1) (nQ (vs.getD 4 0)) (nQ 1)) (vs.getD 0 0) (vs.getD 1 0)
    have hc : (nQ (raN (d 1) n (riF (d 5) (nQ (vs.getD 4 0)) (nQ 1) (nQ (vs.getD 4 0)) (nQ 1)) (vs.getD 0 0) (vs.getD 1 0)) < nQ 0) = False := by rw [nQ_lt (by omega) (by decide)]; exact eq_false (by omega)
    refine ⟨rX (rX d 5 (riF (d 5) (nQ (vs.getD 4 0)) (nQ 1) (nQ (vs.getD 4 0)) (nQ 1))) 1 (crF (d 1) n (riF (d 5) (nQ (vs.getD 4 0)) (nQ 1) (nQ (vs.getD 4 0)) (nQ 1)) (vs.getD 0 0) (vs.getD 1 0) (nQ (100 * vs.getD 2 0 + vs.getD 3 0)) (nQ (vs.getD 4 0))), ?_, ?_, ?_⟩
    rotate_left
    · refine (rX_s (rX d 5 (riF (d 5) (nQ (vs.getD 4 0)) (nQ 1) (nQ (vs.getD 4 0)) (nQ 1))) 1 _).trans (cr_ri (ra_ri (d 1) n (d 5) z0F _ _ _ _ _ _) _ _)
    · exact fun u h1 h2 => (rX_n h1).trans (rX_n h2)
    · refine (g152_0).trans ?_
      simp (disch := omega) only [aOk, eq_self, tk_sB, pr_sB, tk_wr, pr_wr, nQ_nat, nQ_neg, nQ_add, nQ_mul, nQ_lt, leF, ltT, ltF, rd_sB, rd_sB0, wr_sB, wr_sB0, cn_l, cn_r, Option.toList, List.cons_append, List.nil_append, if_true, if_false, true_and, and_true, or_false, false_or, true_or, or_true, not_false_eq_true, not_true_eq_false, and_false, false_and, zb_0, zb_1, q10, h0, h7, p1, p4, t1, t4, e99, a2, a3, e, hn, e60, Nat.reduceAdd, g152_81, g152_100]
      rw [g152_138]
      simp (disch := omega) only [aOk, eq_self, tk_sB, pr_sB, tk_wr, pr_wr, nQ_nat, nQ_neg, nQ_add, nQ_mul, nQ_lt, leF, ltT, ltF, rd_sB, rd_sB0, wr_sB, wr_sB0, cn_l, cn_r, Option.toList, List.cons_append, List.nil_append, if_true, if_false, true_and, and_true, or_false, false_or, true_or, or_true, not_false_eq_true, not_true_eq_false, and_false, false_and, zb_0, zb_1, q10, h0, h7, p1, p4, t1, t4, a0, a1, a2, a3, a4, e27, hc, g152_214, g152_260, g152_269]
  · have hkq : d 1 (5 + 4 * j) = nQ 100 * nQ (vs.getD 0 0) + nQ (vs.getD 1 0) := by rw [nQ_mul, nQ_add]; exact hkey
    have e := m114_i h hn h60 hI.1.2.1 hj hkq
    have ej := nQ_m1 (i := j) (by omega)
    have hl3 : l = 114 ∨ l = 100 ∨ l = 109 := by
      rcases hE with ⟨rfl, -⟩ | ⟨rfl, -⟩ | ⟨rfl, -⟩
      · exact Or.inl rfl
      · exact Or.inr (Or.inl rfl)
      · exact Or.inr (Or.inr rfl)
    have hl2 : 2 ≤ vs.length := by rw [hV1]; rcases hl3 with rfl | rfl | rfl <;> decide
    have a0 := hv 0 (by omega)
    have a1 := hv 1 (by omega)
    have e1 := n1' l 110 (by omega) (by decide) (by omega)
    have e2 := n1' l 99 (by omega) (by decide) (by omega)
    have X : DoM 152 [.ref b] (sB 7 σ b d) = RuM 152 (138, [some (.ref b), some (.int (nQ 0)), some (.int (nQ j)), some (.int (nQ 0))], [], 0, 0) (sB 7 σ b d) := by
      refine (g152_0).trans ?_
      simp (disch := omega) only [aOk, eq_self, tk_sB, pr_sB, tk_wr, pr_wr, nQ_nat, nQ_neg, nQ_add, nQ_mul, nQ_lt, leF, ltT, ltF, rd_sB, rd_sB0, wr_sB, wr_sB0, cn_l, cn_r, Option.toList, List.cons_append, List.nil_append, if_true, if_false, true_and, and_true, or_false, false_or, true_or, or_true, not_false_eq_true, not_true_eq_false, and_false, false_and, zb_0, zb_1, q10, h0, h7, e1, e2, p1, p4, t1, t4, a0, a1, e, ej, Nat.zero_add, g152_81, g152_100]
    rw [X, g152_138]
    rcases hE with ⟨rfl, hf, en⟩ | ⟨rfl, hf, en⟩ | ⟨rfl, hf, en⟩
    · have hl : vs.length = 3 := hV1
      have a2 := hv 2 (by omega)
      have e3 := n1' 114 100 (by decide) (by decide) (by decide)
      have e28 := m128 (d := d) h hn h60 hj hu hg eu eg (nQ (vs.getD 2 0))
      have l := ra_le (d 1) n (riF (d 5) (moF (d 1) j (nQ (vs.getD 2 0))) (nQ 0) (moF (d 1) j (nQ (vs.getD 2 0))) (nQ 0)) u g
      have hc : (nQ (raN (d 1) n (riF (d 5) (moF (d 1) j (nQ (vs.getD 2 0))) (nQ 0) (moF (d 1) j (nQ (vs.getD 2 0))) (nQ 0)) u g) < nQ 0) = False := by rw [nQ_lt (by omega) (by decide)]; exact eq_false (by omega)
      refine ⟨rX (rX d 5 (riF (d 5) (moF (d 1) j (nQ (vs.getD 2 0))) (nQ 0) (moF (d 1) j (nQ (vs.getD 2 0))) (nQ 0))) 1 (rsF (d 1) n (riF (d 5) (moF (d 1) j (nQ (vs.getD 2 0))) (nQ 0) (moF (d 1) j (nQ (vs.getD 2 0))) (nQ 0)) u g j (nQ (vs.getD 2 0))), ?_, ?_, ?_⟩
      rotate_left
      · rw [hf]
        refine (rX_s (rX d 5 (riF (d 5) (moF (d 1) j (nQ (vs.getD 2 0))) (nQ 0) (moF (d 1) j (nQ (vs.getD 2 0))) (nQ 0))) 1 _).trans (rs_ri (ra_ri (d 1) n (d 5) z0F _ _ _ _ _ _) _ _)
      · exact fun u h1 h2 => (rX_n h1).trans (rX_n h2)
      · simp (disch := omega) only [aOk, eq_self, tk_sB, pr_sB, tk_wr, pr_wr, nQ_nat, nQ_neg, nQ_add, nQ_mul, nQ_lt, leF, ltT, ltF, rd_sB, rd_sB0, wr_sB, wr_sB0, cn_l, cn_r, Option.toList, List.cons_append, List.nil_append, if_true, if_false, true_and, and_true, or_false, false_or, true_or, or_true, not_false_eq_true, not_true_eq_false, and_false, false_and, zb_0, zb_1, q10, h0, h7, e2, e3, p1, p4, t1, t4, a2, e28, hc, g152_229, g152_260, g152_269]
    · have e29 := m129 (d := d) h hn h60 hj
      rw [es] at e29
      have hc : (nQ s < nQ 0) = False := by rw [nQ_lt (by omega) (by decide)]; exact eq_false (by omega)
      rw [hf]
      refine ⟨rX d 1 (deF (d 1) n j), ?_, rX_s _ _ _, fun u h1 h2 => rX_n h1⟩
      simp (disch := omega) only [aOk, eq_self, tk_sB, pr_sB, tk_wr, pr_wr, nQ_nat, nQ_neg, nQ_add, nQ_mul, nQ_lt, leF, ltT, ltF, rd_sB, rd_sB0, wr_sB, wr_sB0, cn_l, cn_r, Option.toList, List.cons_append, List.nil_append, if_true, if_false, true_and, and_true, or_false, false_or, true_or, or_true, not_false_eq_true, not_true_eq_false, and_false, false_and, zb_0, zb_1, q10, h0, h7, e2, e29, hc, g152_238, g152_260, g152_269]
    · have hl : vs.length = 4 := hV1
      have a2 := hv 2 (by omega)
      have a3 := hv 3 (by omega)
      have b2 : vs.getD 2 0 ≤ 5 := hV2 2 (by omega)
      have b3 : vs.getD 3 0 ≤ 2 := hV2 3 (by omega)
      have e3 := n1' 109 100 (by decide) (by decide) (by decide)
      have e4 := n1' 109 114 (by decide) (by decide) (by decide)
      have e30 := m130 (d := d) h hn h60 hj (u := vs.getD 2 0) (g := vs.getD 3 0) (by omega) (by omega)
      have l := ra_le (d 1) n (mrF (d 1) (d 5) (vs.getD 2 0) (vs.getD 3 0) j) (vs.getD 2 0) (vs.getD 3 0)
      have hc : (nQ (raN (d 1) n (mrF (d 1) (d 5) (vs.getD 2 0) (vs.getD 3 0) j) (vs.getD 2 0) (vs.getD 3 0)) < nQ 0) = False := by rw [nQ_lt (by omega) (by decide)]; exact eq_false (by omega)
      refine ⟨rX (rX d 5 (mrF (d 1) (d 5) (vs.getD 2 0) (vs.getD 3 0) j)) 1 (mvF (d 1) n (mrF (d 1) (d 5) (vs.getD 2 0) (vs.getD 3 0) j) (vs.getD 2 0) (vs.getD 3 0) j), ?_, ?_, ?_⟩
      rotate_left
      · rw [hf]
        refine (rX_s (rX d 5 (mrF (d 1) (d 5) (vs.getD 2 0) (vs.getD 3 0) j)) 1 _).trans (mv_ri (ra_ri (d 1) n (d 5) z0F _ _ _ _ _ _) _)
      · exact fun u h1 h2 => (rX_n h1).trans (rX_n h2)
      · simp (disch := omega) only [aOk, eq_self, tk_sB, pr_sB, tk_wr, pr_wr, nQ_nat, nQ_neg, nQ_add, nQ_mul, nQ_lt, leF, ltT, ltF, rd_sB, rd_sB0, wr_sB, wr_sB0, cn_l, cn_r, Option.toList, List.cons_append, List.nil_append, if_true, if_false, true_and, and_true, or_false, false_or, true_or, or_true, not_false_eq_true, not_true_eq_false, and_false, false_and, zb_0, zb_1, q10, h0, h7, e2, e3, e4, p1, p4, t1, t4, a2, a3, e30, hc, g152_259, g152_260, g152_269]
end Dd
