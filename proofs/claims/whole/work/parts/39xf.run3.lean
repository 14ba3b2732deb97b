/-! Texts executed: the class. -/
theorem Rl_d {d d' : Nat → Nat → Int32} {f U : Nat → Int32} (h : RlC d f U) (e : ∀ u, u < 17 → d' u = d u) : RlC d' f U := by
  obtain ⟨⟨a1, a2, a3⟩, a4, a5, a6⟩ := h
  refine ⟨⟨by rw [e 0 (by decide), a1], fun r hr => by rw [e 1 (by decide), a2 r hr], fun u hu => by rw [e 2 (by decide), a3 u hu]⟩, fun k hk => ?_, fun a ha => by rw [e 7 (by decide), a5 a ha], Lg_congr a6 (fun u h1 h2 => e u h2) (fun _ _ _ => rfl)⟩
  rw [e 3 (by decide), e 4 (by decide), e 5 (by decide), e 6 (by decide)]
  exact a4 k hk
def SD (M : Mem) (f : Nat → Int32) (n : Nat) : Prop := RlC (rw_ M 9) f (fun k => usF f (nQ (k / 2)) (k - k / 2 * 2) n) ∧ FlR (rw_ M 9) f n ∧ InvF f n
theorem SD_fr {M M' : Mem} {f : Nat → Int32} {n : Nat} (h : SD M f n) (e : ∀ v, 9 ≤ v → v < 26 → rdM M' v = rdM M v) : SD M' f n := by
  have e' : ∀ u, u < 17 → rw_ M' 9 u = rw_ M 9 u := fun u hu => e (9 + u) (by omega) (by omega)
  exact ⟨Rl_d h.1 e', Fl_cg h.2.1 (fun u h1 h2 => e' u (by omega)) (fun _ _ _ => rfl), h.2.2⟩
theorem SD_sB {M : Mem} {d' : Nat → Nat → Int32} {f : Nat → Int32} {n : Nat} (h1 : RlC d' f (fun k => usF f (nQ (k / 2)) (k - k / 2 * 2) n)) (h2 : FlR d' f n) (h3 : InvF f n) : SD (sB 17 M 9 d') f n := by
  have e' : ∀ u, u < 17 → rw_ (sB 17 M 9 d') 9 u = d' u := fun u hu => rdf_in hu
  exact ⟨Rl_d h1 e', Fl_cg h2 (fun u h1 h2 => e' u (by omega)) (fun _ _ _ => rfl), h3⟩
section Df
variable {M : Mem} {f : Nat → Int32} {n l : Nat} {vs : List Nat}
theorem c102 (hW : WdX M) (hD : SD M f n) (hl : l = 99 ∨ l = 114 ∨ l = 100 ∨ l = 109 ∨ l = 110) (h3 : rdM M 182 3 = nQ l) (hv : ∀ j, j < vs.length → rdM M (182 + 2) j = nQ (vs.getD j 0)) (hV : VsO l vs) : (ExR f n l vs none ∧ DoM 102 [.ref 8] M = some (.inl (some (.int (nQ 0))), M)) ∨ ∃ f1 n1 d', ExR f n l vs (some (f1, n1)) ∧ DoM 102 [.ref 8] M = some (.inl (some (.int (nQ 1))), sB 17 M 9 d') ∧ SD (sB 17 M 9 d') f1 n1 := by
  obtain ⟨hR, hF, hI⟩ := id hD
  have hV' := hV
  obtain ⟨hV1, hV2⟩ := hV
  have w1 : tkM M 8 = (1, 4) := hW.1.1
  have w2 : prM M 8 0 = 9 := hW.1.2.1
  have w3 : prM M 8 6 = 182 := hW.1.2.2.2.2.2.2.1
  have hs : ShS M 9 := hW.2.1.1
  obtain ⟨-, q0, -, q4, -, q2⟩ := Wd_T hW
  have hn := hF.2.1
  have h60 := hF.2.2.1
  have n1' : ∀ a c, a ≤ 200 → c ≤ 200 → ¬ a = c → (nQ a = nQ c) = False := fun a c h1 h2 h3 => by rw [nQ_eq (by omega) (by omega)]; exact eq_false h3
  have un : ∀ {f1 : Nat → Int32} {a c : Nat}, f1 4 = nQ a → f1 4 = nQ c → a ≤ 60 → c ≤ 60 → a = c := fun h1 h2 h3 h4 => by
    rw [h1, nQ_eq (by omega) (by omega)] at h2
    exact h2
  by_cases l110 : l = 110
  · subst l110
    have el : vs.length = 1 := hV1
    have a0 := hv 0 (by omega)
    have b0 : vs.getD 0 0 ≤ 100 := hV2 0 (by omega)
    have e9 := n1' 110 99 (by decide) (by decide) (by decide)
    have r32 := c32 (d := rw_ M 9) hs hR (nQ (vs.getD 0 0))
    rw [sB_rw] at r32
    by_cases hy : nQ 10000 < f 0 + nQ (vs.getD 0 0)
    · rw [if_pos hy] at r32
      refine Or.inl ⟨Or.inl ⟨rfl, hy⟩, ?_⟩
      refine (g102_0).trans ?_
      simp (disch := omega) only [cn_l, cn_r, Option.toList, List.cons_append, List.nil_append, if_true, if_false, tk_sB, pr_sB, aOk, nQ_nat, nQ_neg, nQ_add, nQ_mul, leF, rd_sB, rd_sB0, wr_sB, wr_sB0, true_and, and_true, or_false, false_or, not_false_eq_true, true_or, or_true, w1, w2, w3, q0, q4, q2, h3, a0, hs.2.1.1, hs.2.1.2.1, hs.2.1.2.2, hs.2.2.1.1, hs.2.2.1.2.1, hs.2.2.1.2.2.1, hs.2.2.1.2.2.2.1, hs.2.2.1.2.2.2.2.1, hs.2.2.1.2.2.2.2.2.1, hs.2.2.1.2.2.2.2.2.2.1, hs.2.2.1.2.2.2.2.2.2.2.1, hs.2.2.1.2.2.2.2.2.2.2.2, hs.2.2.2.1.1, hs.2.2.2.1.2.1, hs.2.2.2.1.2.2.1, hs.2.2.2.1.2.2.2, hs.2.2.2.2.1.1, hs.2.2.2.2.1.2.1, hs.2.2.2.2.1.2.2, hs.2.2.2.2.2.1.1, hs.2.2.2.2.2.1.2.1, hs.2.2.2.2.2.1.2.2.1, hs.2.2.2.2.2.1.2.2.2.1, hs.2.2.2.2.2.1.2.2.2.2.1, hs.2.2.2.2.2.1.2.2.2.2.2.1, hs.2.2.2.2.2.1.2.2.2.2.2.2, hs.2.2.2.2.2.2.1.1, hs.2.2.2.2.2.2.1.2.1, hs.2.2.2.2.2.2.1.2.2.1, hs.2.2.2.2.2.2.1.2.2.2, hs.2.2.2.2.2.2.2.1, hs.2.2.2.2.2.2.2.2.1, hs.2.2.2.2.2.2.2.2.2, le8 hs.1, e9, r32, zb_0, g102_29, g102_38, g102_60, g102_61, g102_85, g102_100, g102_101, g102_119, g102_122, g102_153, g102_183, g102_195, g102_196]
    · rw [if_neg hy] at r32
      obtain ⟨d', y1, y2, y3⟩ := c33 (d := rw_ M 9) hs hR b0
      rw [sB_rw] at y1
      have hE : ExR f n 110 vs (some (dyR f (vs.getD 0 0), n)) := Or.inl ⟨rfl, hy, rfl, rfl⟩
      obtain ⟨g1, g2, g3, g4⟩ := ex_inv hn h60 hI hV' hE
      refine Or.inr ⟨_, _, d', hE, ?_, SD_sB (Rl_U y2 (fun k _ => us_c2 h60 _ _ (fun i h1 h2 => dy_lo _ (by omega) (by omega) _))) (Fl_cg hF y3 (fun i h1 h2 => dy_lo _ (by omega) (by omega) _)) g1⟩
      refine (g102_0).trans ?_
      simp (disch := omega) only [cn_l, cn_r, Option.toList, List.cons_append, List.nil_append, if_true, if_false, tk_sB, pr_sB, aOk, nQ_nat, nQ_neg, nQ_add, nQ_mul, leF, rd_sB, rd_sB0, wr_sB, wr_sB0, true_and, and_true, or_false, false_or, not_false_eq_true, true_or, or_true, w1, w2, w3, q0, q4, q2, h3, a0, hs.2.1.1, hs.2.1.2.1, hs.2.1.2.2, hs.2.2.1.1, hs.2.2.1.2.1, hs.2.2.1.2.2.1, hs.2.2.1.2.2.2.1, hs.2.2.1.2.2.2.2.1, hs.2.2.1.2.2.2.2.2.1, hs.2.2.1.2.2.2.2.2.2.1, hs.2.2.1.2.2.2.2.2.2.2.1, hs.2.2.1.2.2.2.2.2.2.2.2, hs.2.2.2.1.1, hs.2.2.2.1.2.1, hs.2.2.2.1.2.2.1, hs.2.2.2.1.2.2.2, hs.2.2.2.2.1.1, hs.2.2.2.2.1.2.1, hs.2.2.2.2.1.2.2, hs.2.2.2.2.2.1.1, hs.2.2.2.2.2.1.2.1, hs.2.2.2.2.2.1.2.2.1, hs.2.2.2.2.2.1.2.2.2.1, hs.2.2.2.2.2.1.2.2.2.2.1, hs.2.2.2.2.2.1.2.2.2.2.2.1, hs.2.2.2.2.2.1.2.2.2.2.2.2, hs.2.2.2.2.2.2.1.1, hs.2.2.2.2.2.2.1.2.1, hs.2.2.2.2.2.2.1.2.2.1, hs.2.2.2.2.2.2.1.2.2.2, hs.2.2.2.2.2.2.2.1, hs.2.2.2.2.2.2.2.2.1, hs.2.2.2.2.2.2.2.2.2, le8 hs.1, e9, r32, q10, zb_1, y1, g102_29, g102_38, g102_60, g102_61, g102_85, g102_100, g102_101, g102_119, g102_122, g102_153, g102_183, g102_195, g102_196]
  by_cases l99 : l = 99
  · subst l99
    have el : vs.length = 5 := hV1
    have a0 := hv 0 (by omega)
    have a1 := hv 1 (by omega)
    have a2 := hv 2 (by omega)
    have a3 := hv 3 (by omega)
    have a4 := hv 4 (by omega)
    have b0 : vs.getD 0 0 ≤ 5 := hV2 0 (by omega)
    have b1 : vs.getD 1 0 ≤ 2 := hV2 1 (by omega)
    have b4 : vs.getD 4 0 ≤ 5000 := hV2 4 (by omega)
    have e16 := c16 (d := rw_ M 9) hs hF.1 h60 (nQ (100 * vs.getD 2 0 + vs.getD 3 0))
    rw [sB_rw] at e16
    by_cases hc : n < 60 ∧ ∀ i, i < n → ¬ rw_ M 9 9 i = nQ (100 * vs.getD 2 0 + vs.getD 3 0)
    · rw [if_pos hc] at e16
      obtain ⟨d', y1, y2, y3⟩ := c17 (d := rw_ M 9) hs hR hF (fun k _ => rfl) hc.1 (u := vs.getD 0 0) (g := vs.getD 1 0) (by omega) (by omega) b4 (nQ (100 * vs.getD 2 0 + vs.getD 3 0)) z0F
      rw [sB_rw] at y1
      have hE : ExR f n 99 vs (some (crF f n (riF z0F (nQ (vs.getD 4 0)) (nQ 1) (nQ (vs.getD 4 0)) (nQ 1)) (vs.getD 0 0) (vs.getD 1 0) (nQ (100 * vs.getD 2 0 + vs.getD 3 0)) (nQ (vs.getD 4 0)), crN f n (riF z0F (nQ (vs.getD 4 0)) (nQ 1) (nQ (vs.getD 4 0)) (nQ 1)) (vs.getD 0 0) (vs.getD 1 0))) := Or.inr (Or.inl ⟨rfl, hc.1, fun i hi e => by
        obtain ⟨j, hj, e'⟩ := fl_fro hF hi
        exact hc.2 j hj ((congrArg (·.1) e').trans e), rfl, rfl⟩)
      obtain ⟨g1, g2, g3, g4⟩ := ex_inv hn h60 hI hV' hE
      refine Or.inr ⟨_, _, d', hE, ?_, SD_sB y2 y3 g1⟩
      refine (g102_0).trans ?_
      simp (disch := omega) only [cn_l, cn_r, Option.toList, List.cons_append, List.nil_append, if_true, if_false, tk_sB, pr_sB, aOk, nQ_nat, nQ_neg, nQ_add, nQ_mul, leF, rd_sB, rd_sB0, wr_sB, wr_sB0, true_and, and_true, or_false, false_or, not_false_eq_true, true_or, or_true, w1, w2, w3, q0, q4, q2, h3, a0, a1, a2, a3, a4, hs.2.1.1, hs.2.1.2.1, hs.2.1.2.2, hs.2.2.1.1, hs.2.2.1.2.1, hs.2.2.1.2.2.1, hs.2.2.1.2.2.2.1, hs.2.2.1.2.2.2.2.1, hs.2.2.1.2.2.2.2.2.1, hs.2.2.1.2.2.2.2.2.2.1, hs.2.2.1.2.2.2.2.2.2.2.1, hs.2.2.1.2.2.2.2.2.2.2.2, hs.2.2.2.1.1, hs.2.2.2.1.2.1, hs.2.2.2.1.2.2.1, hs.2.2.2.1.2.2.2, hs.2.2.2.2.1.1, hs.2.2.2.2.1.2.1, hs.2.2.2.2.1.2.2, hs.2.2.2.2.2.1.1, hs.2.2.2.2.2.1.2.1, hs.2.2.2.2.2.1.2.2.1, hs.2.2.2.2.2.1.2.2.2.1, hs.2.2.2.2.2.1.2.2.2.2.1, hs.2.2.2.2.2.1.2.2.2.2.2.1, hs.2.2.2.2.2.1.2.2.2.2.2.2, hs.2.2.2.2.2.2.1.1, hs.2.2.2.2.2.2.1.2.1, hs.2.2.2.2.2.2.1.2.2.1, hs.2.2.2.2.2.2.1.2.2.2, hs.2.2.2.2.2.2.2.1, hs.2.2.2.2.2.2.2.2.1, hs.2.2.2.2.2.2.2.2.2, le8 hs.1, c100, e16, q10, zb_1, y1, g102_29, g102_38, g102_60, g102_61, g102_85, g102_100, g102_101, g102_119, g102_122, g102_153, g102_183, g102_195, g102_196]
    · rw [if_neg hc] at e16
      refine Or.inl ⟨Or.inr (Or.inl ⟨rfl, ?_⟩), ?_⟩
      · by_cases h6 : n < 60
        · refine Or.inr (Classical.byContradiction fun z => hc ⟨h6, fun i hi e => ?_⟩)
          obtain ⟨j, hj, e'⟩ := fl_to hF hi
          exact z ⟨j, hj, (congrArg (·.1) e').trans e⟩
        · exact Or.inl (by omega)
      · refine (g102_0).trans ?_
        simp (disch := omega) only [cn_l, cn_r, Option.toList, List.cons_append, List.nil_append, if_true, if_false, tk_sB, pr_sB, aOk, nQ_nat, nQ_neg, nQ_add, nQ_mul, leF, rd_sB, rd_sB0, wr_sB, wr_sB0, true_and, and_true, or_false, false_or, not_false_eq_true, true_or, or_true, w1, w2, w3, q0, q4, q2, h3, a2, a3, hs.2.1.1, hs.2.1.2.1, hs.2.1.2.2, hs.2.2.1.1, hs.2.2.1.2.1, hs.2.2.1.2.2.1, hs.2.2.1.2.2.2.1, hs.2.2.1.2.2.2.2.1, hs.2.2.1.2.2.2.2.2.1, hs.2.2.1.2.2.2.2.2.2.1, hs.2.2.1.2.2.2.2.2.2.2.1, hs.2.2.1.2.2.2.2.2.2.2.2, hs.2.2.2.1.1, hs.2.2.2.1.2.1, hs.2.2.2.1.2.2.1, hs.2.2.2.1.2.2.2, hs.2.2.2.2.1.1, hs.2.2.2.2.1.2.1, hs.2.2.2.2.1.2.2, hs.2.2.2.2.2.1.1, hs.2.2.2.2.2.1.2.1, hs.2.2.2.2.2.1.2.2.1, hs.2.2.2.2.2.1.2.2.2.1, hs.2.2.2.2.2.1.2.2.2.2.1, hs.2.2.2.2.2.1.2.2.2.2.2.1, hs.2.2.2.2.2.1.2.2.2.2.2.2, hs.2.2.2.2.2.2.1.1, hs.2.2.2.2.2.2.1.2.1, hs.2.2.2.2.2.2.1.2.2.1, hs.2.2.2.2.2.2.1.2.2.2, hs.2.2.2.2.2.2.2.1, hs.2.2.2.2.2.2.2.2.1, hs.2.2.2.2.2.2.2.2.2, le8 hs.1, c100, e16, zb_0, g102_29, g102_38, g102_60, g102_61, g102_85, g102_100, g102_101, g102_119, g102_122, g102_153, g102_183, g102_195, g102_196]
  have hl3 : l = 114 ∨ l = 100 ∨ l = 109 := by omega
  have hl2 : 2 ≤ vs.length := by rw [hV1]; rcases hl3 with rfl | rfl | rfl <;> decide
  have a0 := hv 0 (by omega)
  have a1 := hv 1 (by omega)
  have e1 := n1' l 110 (by omega) (by decide) (by omega)
  have e2 := n1' l 99 (by omega) (by decide) (by omega)
  obtain ⟨y, e6, hy⟩ := c6 (d := rw_ M 9) hs hF.1 h60 (nQ (100 * vs.getD 0 0 + vs.getD 1 0))
  rw [sB_rw] at e6
  have X : DoM 102 [.ref 8] M = RuM 102 (122, [some (.ref 8), some (.ref (182 + 2)), none, none], [.int y], 0, 0) M := by
    refine (g102_0).trans ?_
    simp (disch := omega) only [cn_l, cn_r, Option.toList, List.cons_append, List.nil_append, if_true, if_false, tk_sB, pr_sB, aOk, nQ_nat, nQ_neg, nQ_add, nQ_mul, leF, rd_sB, rd_sB0, wr_sB, wr_sB0, true_and, and_true, or_false, false_or, not_false_eq_true, true_or, or_true, w1, w2, w3, q0, q4, q2, h3, a0, a1, hs.2.1.1, hs.2.1.2.1, hs.2.1.2.2, hs.2.2.1.1, hs.2.2.1.2.1, hs.2.2.1.2.2.1, hs.2.2.1.2.2.2.1, hs.2.2.1.2.2.2.2.1, hs.2.2.1.2.2.2.2.2.1, hs.2.2.1.2.2.2.2.2.2.1, hs.2.2.1.2.2.2.2.2.2.2.1, hs.2.2.1.2.2.2.2.2.2.2.2, hs.2.2.2.1.1, hs.2.2.2.1.2.1, hs.2.2.2.1.2.2.1, hs.2.2.2.1.2.2.2, hs.2.2.2.2.1.1, hs.2.2.2.2.1.2.1, hs.2.2.2.2.1.2.2, hs.2.2.2.2.2.1.1, hs.2.2.2.2.2.1.2.1, hs.2.2.2.2.2.1.2.2.1, hs.2.2.2.2.2.1.2.2.2.1, hs.2.2.2.2.2.1.2.2.2.2.1, hs.2.2.2.2.2.1.2.2.2.2.2.1, hs.2.2.2.2.2.1.2.2.2.2.2.2, hs.2.2.2.2.2.2.1.1, hs.2.2.2.2.2.2.1.2.1, hs.2.2.2.2.2.2.1.2.2.1, hs.2.2.2.2.2.2.1.2.2.2, hs.2.2.2.2.2.2.2.1, hs.2.2.2.2.2.2.2.2.1, hs.2.2.2.2.2.2.2.2.2, le8 hs.1, e1, e2, c100, e6, g102_119]
  rw [X, g102_122]
  rcases hy with ⟨i, hi, rfl, hk⟩ | ⟨rfl, hk⟩
  · have ej := nQ_m1 (i := i) (by omega)
    obtain ⟨j, hj, eq⟩ := fl_to hF hi
    have hkj : f (5 + 4 * j) = nQ (100 * vs.getD 0 0 + vs.getD 1 0) := (congrArg (·.1) eq).trans hk
    obtain ⟨u0, g0, s, hu0, hg0, hs0, eu, eg, es⟩ := hI.1.1 j hj
    have kk : rw_ M 9 9 i = f (5 + 4 * j) := hk.trans hkj.symm
    rcases hl3 with rfl | rfl | rfl
    · have el : vs.length = 3 := hV1
      have a2 := hv 2 (by omega)
      have b2 : vs.getD 2 0 ≤ 5000 := hV2 2 (by omega)
      obtain ⟨d', y1, y2, y3⟩ := c18 (d := rw_ M 9) hs hR hF (fun k _ => rfl) hI.1.2.1 hi hj kk hu0 hg0 hs0 b2 eu eg es z0F
      rw [sB_rw] at y1
      have hE : ExR f n 114 vs (some (rsF f n (riF z0F (moF f j (nQ (vs.getD 2 0))) (nQ 0) (moF f j (nQ (vs.getD 2 0))) (nQ 0)) u0 g0 j (nQ (vs.getD 2 0)), n)) := Or.inr (Or.inr ⟨j, u0, g0, s, ⟨hj, hkj⟩, ⟨hu0, hg0, hs0, eu, eg, es⟩, Or.inl ⟨rfl, rfl, rfl⟩⟩)
      obtain ⟨g1, g2, g3, g4⟩ := ex_inv hn h60 hI hV' hE
      refine Or.inr ⟨_, _, d', hE, ?_, SD_sB y2 y3 g1⟩
      simp (disch := omega) only [cn_l, cn_r, Option.toList, List.cons_append, List.nil_append, if_true, if_false, tk_sB, pr_sB, aOk, nQ_nat, nQ_neg, nQ_add, nQ_mul, leF, rd_sB, rd_sB0, wr_sB, wr_sB0, true_and, and_true, or_false, false_or, not_false_eq_true, true_or, or_true, w1, w2, w3, q0, q4, q2, h3, a2, hs.2.1.1, hs.2.1.2.1, hs.2.1.2.2, hs.2.2.1.1, hs.2.2.1.2.1, hs.2.2.1.2.2.1, hs.2.2.1.2.2.2.1, hs.2.2.1.2.2.2.2.1, hs.2.2.1.2.2.2.2.2.1, hs.2.2.1.2.2.2.2.2.2.1, hs.2.2.1.2.2.2.2.2.2.2.1, hs.2.2.1.2.2.2.2.2.2.2.2, hs.2.2.2.1.1, hs.2.2.2.1.2.1, hs.2.2.2.1.2.2.1, hs.2.2.2.1.2.2.2, hs.2.2.2.2.1.1, hs.2.2.2.2.1.2.1, hs.2.2.2.2.1.2.2, hs.2.2.2.2.2.1.1, hs.2.2.2.2.2.1.2.1, hs.2.2.2.2.2.1.2.2.1, hs.2.2.2.2.2.1.2.2.2.1, hs.2.2.2.2.2.1.2.2.2.2.1, hs.2.2.2.2.2.1.2.2.2.2.2.1, hs.2.2.2.2.2.1.2.2.2.2.2.2, hs.2.2.2.2.2.2.1.1, hs.2.2.2.2.2.2.1.2.1, hs.2.2.2.2.2.2.1.2.2.1, hs.2.2.2.2.2.2.1.2.2.2, hs.2.2.2.2.2.2.2.1, hs.2.2.2.2.2.2.2.2.1, hs.2.2.2.2.2.2.2.2.2, le8 hs.1, ej, y1, g102_153, g102_196]
    · obtain ⟨m, rfl⟩ : ∃ m, n = m + 1 := ⟨n - 1, by omega⟩
      have e3 := n1' 100 114 (by decide) (by decide) (by decide)
      have e4 := n1' 100 109 (by decide) (by decide) (by decide)
      obtain ⟨d', y1, y2, y3⟩ := c20 (d := rw_ M 9) hs hR hF (fun k _ => rfl) hI.1.2.1 hi hj kk hu0 hg0 eu eg es
      rw [sB_rw] at y1
      have hE : ExR f (m + 1) 100 vs (some (deF f (m + 1) j, m)) := Or.inr (Or.inr ⟨j, u0, g0, s, ⟨hj, hkj⟩, ⟨hu0, hg0, hs0, eu, eg, es⟩, Or.inr (Or.inl ⟨rfl, rfl, rfl⟩)⟩)
      obtain ⟨g1, g2, g3, g4⟩ := ex_inv hn h60 hI hV' hE
      refine Or.inr ⟨_, _, d', hE, ?_, SD_sB y2 y3 g1⟩
      simp (disch := omega) only [cn_l, cn_r, Option.toList, List.cons_append, List.nil_append, if_true, if_false, tk_sB, pr_sB, aOk, nQ_nat, nQ_neg, nQ_add, nQ_mul, leF, rd_sB, rd_sB0, wr_sB, wr_sB0, true_and, and_true, or_false, false_or, not_false_eq_true, true_or, or_true, w1, w2, w3, q0, q4, q2, h3, hs.2.1.1, hs.2.1.2.1, hs.2.1.2.2, hs.2.2.1.1, hs.2.2.1.2.1, hs.2.2.1.2.2.1, hs.2.2.1.2.2.2.1, hs.2.2.1.2.2.2.2.1, hs.2.2.1.2.2.2.2.2.1, hs.2.2.1.2.2.2.2.2.2.1, hs.2.2.1.2.2.2.2.2.2.2.1, hs.2.2.1.2.2.2.2.2.2.2.2, hs.2.2.2.1.1, hs.2.2.2.1.2.1, hs.2.2.2.1.2.2.1, hs.2.2.2.1.2.2.2, hs.2.2.2.2.1.1, hs.2.2.2.2.1.2.1, hs.2.2.2.2.1.2.2, hs.2.2.2.2.2.1.1, hs.2.2.2.2.2.1.2.1, hs.2.2.2.2.2.1.2.2.1, hs.2.2.2.2.2.1.2.2.2.1, hs.2.2.2.2.2.1.2.2.2.2.1, hs.2.2.2.2.2.1.2.2.2.2.2.1, hs.2.2.2.2.2.1.2.2.2.2.2.2, hs.2.2.2.2.2.2.1.1, hs.2.2.2.2.2.2.1.2.1, hs.2.2.2.2.2.2.1.2.2.1, hs.2.2.2.2.2.2.1.2.2.2, hs.2.2.2.2.2.2.2.1, hs.2.2.2.2.2.2.2.2.1, hs.2.2.2.2.2.2.2.2.2, le8 hs.1, ej, e3, e4, y1, g102_195, g102_196]
    · have el : vs.length = 4 := hV1
      have a2 := hv 2 (by omega)
      have a3 := hv 3 (by omega)
      have b2 : vs.getD 2 0 ≤ 5 := hV2 2 (by omega)
      have b3 : vs.getD 3 0 ≤ 2 := hV2 3 (by omega)
      have e3 := n1' 109 114 (by decide) (by decide) (by decide)
      obtain ⟨d', y1, y2, y3⟩ := c21 (d := rw_ M 9) hs hR hF (fun k _ => rfl) hI.1.2.1 hi hj kk hu0 hg0 hs0 eu eg es (u := vs.getD 2 0) (g := vs.getD 3 0) (by omega) (by omega) z0F
      rw [sB_rw] at y1
      have hE : ExR f n 109 vs (some (mvF f n (mrF f z0F (vs.getD 2 0) (vs.getD 3 0) j) (vs.getD 2 0) (vs.getD 3 0) j, n)) := Or.inr (Or.inr ⟨j, u0, g0, s, ⟨hj, hkj⟩, ⟨hu0, hg0, hs0, eu, eg, es⟩, Or.inr (Or.inr ⟨rfl, rfl, rfl⟩)⟩)
      obtain ⟨g1, g2, g3, g4⟩ := ex_inv hn h60 hI hV' hE
      refine Or.inr ⟨_, _, d', hE, ?_, SD_sB y2 y3 g1⟩
      simp (disch := omega) only [cn_l, cn_r, Option.toList, List.cons_append, List.nil_append, if_true, if_false, tk_sB, pr_sB, aOk, nQ_nat, nQ_neg, nQ_add, nQ_mul, leF, rd_sB, rd_sB0, wr_sB, wr_sB0, true_and, and_true, or_false, false_or, not_false_eq_true, true_or, or_true, w1, w2, w3, q0, q4, q2, h3, a2, a3, hs.2.1.1, hs.2.1.2.1, hs.2.1.2.2, hs.2.2.1.1, hs.2.2.1.2.1, hs.2.2.1.2.2.1, hs.2.2.1.2.2.2.1, hs.2.2.1.2.2.2.2.1, hs.2.2.1.2.2.2.2.2.1, hs.2.2.1.2.2.2.2.2.2.1, hs.2.2.1.2.2.2.2.2.2.2.1, hs.2.2.1.2.2.2.2.2.2.2.2, hs.2.2.2.1.1, hs.2.2.2.1.2.1, hs.2.2.2.1.2.2.1, hs.2.2.2.1.2.2.2, hs.2.2.2.2.1.1, hs.2.2.2.2.1.2.1, hs.2.2.2.2.1.2.2, hs.2.2.2.2.2.1.1, hs.2.2.2.2.2.1.2.1, hs.2.2.2.2.2.1.2.2.1, hs.2.2.2.2.2.1.2.2.2.1, hs.2.2.2.2.2.1.2.2.2.2.1, hs.2.2.2.2.2.1.2.2.2.2.2.1, hs.2.2.2.2.2.1.2.2.2.2.2.2, hs.2.2.2.2.2.2.1.1, hs.2.2.2.2.2.2.1.2.1, hs.2.2.2.2.2.2.1.2.2.1, hs.2.2.2.2.2.2.1.2.2.2, hs.2.2.2.2.2.2.2.1, hs.2.2.2.2.2.2.2.2.1, hs.2.2.2.2.2.2.2.2.2, le8 hs.1, ej, e3, y1, g102_183, g102_196]
  · refine Or.inl ⟨Or.inr (Or.inr ⟨hl3, fun j hj e => ?_⟩), ?_⟩
    · obtain ⟨i, hi, e'⟩ := fl_fro hF hj
      exact hk i hi ((congrArg (·.1) e').trans e)
    · simp only [if_true]
def FrX (M M' : Mem) : Prop := tkM M' = tkM M ∧ prM M' = prM M ∧ (∀ v, ¬ (9 ≤ v ∧ v < 26) → ¬ v = 182 → ¬ v = 184 → rdM M' v = rdM M v) ∧ rdM M' 182 1 = rdM M 182 1
end Df
