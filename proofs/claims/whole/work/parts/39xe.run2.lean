/-! Texts executed: both sides. -/
def RnR (t : Nat → Nat) (L : Nat) : Nat → (Nat → Int32) → Nat → Nat → (Nat → Int32) → Nat → Prop
  | 0, _, _, _, _, _ => False
  | m + 1, f, n, p, f', k => ∃ vs, (rcN t L p).2 = some vs ∧ ((ExR f n (sgN t L p) vs none ∧ f' = f ∧ k = 0) ∨ ∃ f1 n1, ExR f n (sgN t L p) vs (some (f1, n1)) ∧ ((sgN t L (rcN t L p).1 = 59 ∧ ∃ k', k = k' + 1 ∧ RnR t L m f1 n1 ((rcN t L p).1 + 1) f' k') ∨ (¬ sgN t L (rcN t L p).1 = 59 ∧ (rcN t L p).1 = L ∧ f' = f1 ∧ k = 1)))
theorem vs_ok {t : Nat → Nat} {L p : Nat} {vs : List Nat} (hp : p ≤ L) (h : (rcN t L p).2 = some vs) : VsO (sgN t L p) vs := ⟨((rcN_le hp).2 vs h).2.2.1, ((rcN_le hp).2 vs h).2.2.2⟩
theorem iv_s {t : Nat → Nat} {L m p : Nat} (h : (ivN t L (m + 1) p).2 = true) : ∃ vs, (rcN t L p).2 = some vs ∧ ((rcN t L p).1 = L ∨ (sgN t L (rcN t L p).1 = 59 ∧ (ivN t L m ((rcN t L p).1 + 1)).2 = true)) := by
  unfold ivN at h
  cases hr : (rcN t L p).2 with
  | none => rw [hr] at h; cases h
  | some vs =>
    rw [hr] at h
    dsimp only at h
    refine ⟨vs, rfl, ?_⟩
    split at h
    · next c => exact Or.inl c
    · split at h
      · next c => exact Or.inr ⟨c, h⟩
      · cases h
theorem sg_L (t : Nat → Nat) (L : Nat) : sgN t L L = 0 := if_neg (Nat.lt_irrefl L)
section De
variable {σ : Mem} {b : Nat} {t : Nat → Nat} {L : Nat}
theorem m153_l (h : ShM σ b) : ∀ (m p k n k' : Nat) (d : Nat → Nat → Int32) (f' : Nat → Int32), TxM d t L → d 0 6 = nQ p → p ≤ L → d 1 4 = nQ n → n ≤ 60 → InvF (d 1) n → RnR t L m (d 1) n p f' k' → ∃ D, RuM 153 (32, [some (.ref b), some (.int (nQ k))], [], 0, 0) (sB 7 σ b d) = some (.inl (some (.int (nQ (k + k')))), sB 7 σ b D) ∧ D 1 = f' ∧ D 2 = d 2 ∧ D 3 = d 3 ∧ (∀ j, ¬ j = 6 → ¬ j = 7 → D 0 j = d 0 j) ∧ ∀ i, 357 ≤ i → D 1 i = d 1 i := by
  have h0 := h.2.1
  intro m
  induction m with
  | zero => intro p k n k' d f' _ _ _ _ _ _ hR; exact hR.elim
  | succ m ih =>
    intro p k n k' d f' hT hp hpL hn h60 hI hR
    have h100 := hT.2.1
    obtain ⟨vs, hvs, hR⟩ := hR
    obtain ⟨d1, x1, x2, x3, x4, x5⟩ := m149 h hT hp hpL
    obtain ⟨hle, hv2⟩ := rcN_le (t := t) hpL
    rw [hvs] at x1
    have hV := vs_ok hpL hvs
    have e1 : d1 1 = d 1 := (x2 1 (by decide) (by decide)).trans (rX_n (by decide))
    have e2 : d1 2 = d 2 := (x2 2 (by decide) (by decide)).trans (rX_n (by decide))
    have e3 : d1 3 = d 3 := (x2 3 (by decide) (by decide)).trans (rX_n (by decide))
    have e6 : d1 0 6 = nQ (rcN t L p).1 := by rw [x3, up_s]
    have e7 : d1 0 7 = nQ (sgN t L p) := by
      rw [x3, up_n (by decide)]
      exact up_s (d 0) 7 _
    have ej : ∀ j, ¬ j = 6 → ¬ j = 7 → d1 0 j = d 0 j := fun j h1 h2 => by
      rw [x3, up_n h1]
      exact up_n h2
    have hv : ∀ j, j < vs.length → d1 4 j = nQ (vs.getD j 0) := fun j hj => by
      have := x5 vs hvs j hj
      rwa [Nat.zero_add] at this
    rw [g153_32]
    rcases hR with ⟨hE, rfl, rfl⟩ | ⟨f1, n1, hE, hR⟩
    · have e52 := m152_n (d := d1) h (n := n) (by rw [e1, hn]) h60 (by rw [e1]; exact hI) e7 hv hV (by rw [e1]; exact hE)
      refine ⟨d1, ?_, e1, e2, e3, ej, fun i hi => by rw [e1]⟩
      simp (disch := omega) only [aOk, eq_self, tk_sB, pr_sB, tk_wr, pr_wr, nQ_nat, nQ_neg, nQ_add, nQ_mul, nQ_lt, leF, ltT, ltF, rd_sB, rd_sB0, wr_sB, wr_sB0, cn_l, cn_r, Option.toList, List.cons_append, List.nil_append, if_true, if_false, true_and, and_true, or_false, false_or, true_or, or_true, not_false_eq_true, not_true_eq_false, and_false, false_and, zb_0, zb_1, q10, h0, x1, Option.isSome_some, q10, e52, Nat.add_zero, g153_36, g153_43, g153_59]
    · obtain ⟨D, y1, y2, y3⟩ := m152_y (d := d1) h (n := n) (by rw [e1, hn]) h60 (by rw [e1]; exact hI) e7 hv hV (f1 := f1) (n1 := n1) (by rw [e1]; exact hE)
      obtain ⟨g1, g2, g3, g4⟩ := ex_inv hn h60 hI hV hE
      have z0 : D 0 = d1 0 := y3 0 (by decide) (by decide)
      have z3 : D 3 = d 3 := (y3 3 (by decide) (by decide)).trans e3
      have hT1 : TxM D t L := ⟨by rw [z0, ej 5 (by decide) (by decide)]; exact hT.1, h100, fun i hi => by rw [z3]; exact hT.2.2 i hi⟩
      have e46 := m146 h hT1 (p := (rcN t L p).1) (by rw [z0, e6]) (by omega) (c := 59) (by decide)
      rcases hR with ⟨c59, k2, rfl, hR⟩ | ⟨c59, cL, rfl, rfl⟩
      · have hlt := sg_lt (t := t) (L := L) (p := (rcN t L p).1) (by omega)
        obtain ⟨D2, w1, w2, w3, w4, w5, w6⟩ := ih ((rcN t L p).1 + 1) (k + 1) n1 k2 (atF D ((rcN t L p).1 + 1)) f' hT1 rfl (by omega) (by show D 1 4 = _; rw [y2, g3]) g2 (by show InvF (D 1) n1; rw [y2]; exact g1) (by show RnR t L m (D 1) n1 _ f' k2; rw [y2]; exact hR)
        refine ⟨D2, ?_, w2, ?_, ?_, fun j h1 h2 => ?_, fun i hi => ?_⟩
        · rw [show k + (k2 + 1) = k + 1 + k2 by omega, ← w1]
          simp (disch := omega) only [c59, aOk, eq_self, tk_sB, pr_sB, tk_wr, pr_wr, nQ_nat, nQ_neg, nQ_add, nQ_mul, nQ_lt, leF, ltT, ltF, rd_sB, rd_sB0, wr_sB, wr_sB0, cn_l, cn_r, Option.toList, List.cons_append, List.nil_append, if_true, if_false, true_and, and_true, or_false, false_or, true_or, or_true, not_false_eq_true, not_true_eq_false, and_false, false_and, zb_0, zb_1, q10, h0, x1, Option.isSome_some, q10, y1, e46, g153_36, g153_43, g153_55]
        · exact w3.trans ((y3 2 (by decide) (by decide)).trans e2)
        · exact w4.trans z3
        · rw [w5 j h1 h2]
          exact (up_n h1).trans (by rw [z0, ej j h1 h2])
        · rw [w6 i hi]
          show D 1 i = d 1 i
          rw [y2, g4 i hi]
      · rw [cL] at e6
        have ei : atF D (rcN t L p).1 = D := at_i (by rw [z0, e6, cL])
        obtain ⟨d2, u1, u2, u3, u4, u5⟩ := m149 h hT1 (p := L) (by rw [z0, e6]) (Nat.le_refl L)
        have hrL : rcN t L L = (L, none) := by
          unfold rcN
          rw [sg_L]
          rfl
        rw [hrL] at u1 u3
        have v1 : d2 1 = D 1 := (u2 1 (by decide) (by decide)).trans (rX_n (by decide))
        refine ⟨d2, ?_, v1.trans y2, ?_, ?_, fun j h1 h2 => ?_, fun i hi => ?_⟩
        · simp (disch := omega) only [c59, aOk, eq_self, tk_sB, pr_sB, tk_wr, pr_wr, nQ_nat, nQ_neg, nQ_add, nQ_mul, nQ_lt, leF, ltT, ltF, rd_sB, rd_sB0, wr_sB, wr_sB0, cn_l, cn_r, Option.toList, List.cons_append, List.nil_append, if_true, if_false, true_and, and_true, or_false, false_or, true_or, or_true, not_false_eq_true, not_true_eq_false, and_false, false_and, zb_0, zb_1, q10, h0, x1, Option.isSome_some, q10, y1, e46, ei, g153_36, g153_43, g153_55, g153_32, u1, Option.isSome_none, Bool.false_eq_true, g153_59]
        · exact ((u2 2 (by decide) (by decide)).trans (rX_n (by decide))).trans ((y3 2 (by decide) (by decide)).trans e2)
        · exact ((u2 3 (by decide) (by decide)).trans (rX_n (by decide))).trans z3
        · rw [u3, up_n h1]
          exact (up_n h2).trans (by rw [z0, ej j h1 h2])
        · rw [v1, y2, g4 i hi]
end De
