/-! Texts executed, on both sides. -/
theorem Fr_tr {M M1 M2 : Mem} (h1 : FrX M M1) (h2 : FrX M1 M2) : FrX M M2 := by
  obtain ⟨a1, a2, a3, a4⟩ := h1
  obtain ⟨b1, b2, b3, b4⟩ := h2
  exact ⟨b1.trans a1, b2.trans a2, fun v h1 h2 h3 => (b3 v h1 h2 h3).trans (a3 v h1 h2 h3), b4.trans a4⟩
theorem Fr_3 (M : Mem) {d : Nat → Nat → Int32} (h1 : d 1 = rdM M 183) (h0 : d 0 1 = rdM M 182 1) : FrX M (sB 3 M 182 d) := by
  refine ⟨rfl, rfl, fun v h2 h3 h4 => ?_, ?_⟩
  · by_cases e : v = 183
    · subst e
      exact (rdf_in (u := 1) (b := 182) (by decide)).trans h1
    · exact rdf_out (by omega)
  · exact (congrFun (rdf_in (u := 0) (b := 182) (by decide)) 1).trans h0
theorem Fr_17 (M : Mem) (d : Nat → Nat → Int32) : FrX M (sB 17 M 9 d) := ⟨rfl, rfl, fun v h1 h2 h3 => rdf_out (by omega), by rw [rdf_out (by omega)]⟩
theorem Tx_fr {M M' : Mem} {t : Nat → Nat} {N : Nat} (h : TxC (rw_ M 182) t N) (hf : FrX M M') : TxC (rw_ M' 182) t N := by
  obtain ⟨a1, a2, a3⟩ := h
  refine ⟨hf.2.2.2.trans a1, a2, fun i hi => ?_⟩
  show rdM M' 183 i = _ ∧ _
  rw [hf.2.2.1 183 (by decide) (by decide) (by decide)]
  exact a3 i hi
theorem Wd_fr {M M' : Mem} (h : WdX M) (hf : FrX M M') : WdX M' := Wd_cg h hf.1 (fun v _ => by rw [hf.2.1])
theorem SR_fr {M M' : Mem} (h : StR M) (hf : FrX M M') : StR M' := by
  intro l
  obtain ⟨h1, h2⟩ := h l
  have := rf_lt l
  rw [hf.1, hf.2.2.1 _ (by omega) (by omega) (by omega)]
  exact ⟨h1, h2⟩
theorem c57_l {t : Nat → Nat} {N : Nat} : ∀ (m p k n : Nat) (f : Nat → Int32) (M : Mem), WdX M → StR M → TxC (rw_ M 182) t N → rdM M 182 2 = nQ p → p ≤ N → (ivN t N m p).2 = true → 2 * k ≤ p → SD M f n → ∃ M' f' n' k', RuM 57 (37, [some (.ref 8), some (.int (nQ k)), some (.int (nQ 1))], [], 0, 0) M = some (.inl (some (.int (nQ (k + k')))), M') ∧ RnR t N m f n p f' k' ∧ SD M' f' n' ∧ FrX M M' := by
  intro m
  induction m with
  | zero => intro p k n f M _ _ _ _ _ hiv; cases hiv
  | succ m ih =>
    intro p k n f M hW hS hT hp hpN hiv hk hD
    obtain ⟨hL, h100, hch⟩ := id hT
    have w1 : tkM M 8 = (1, 4) := hW.1.1
    have w3 : prM M 8 6 = 182 := hW.1.2.2.2.2.2.2.1
    have w4 : tkM M 182 = (1, 3) := hW.2.2.1.2.2.2.1
    have hk100 : k < 100 := by omega
    obtain ⟨vs, hvs, hnx⟩ := iv_s hiv
    obtain ⟨hle, hv2⟩ := rcN_le (t := t) hpN
    obtain ⟨g1, g2, g3, g4⟩ := hv2 vs hvs
    have hV : VsO (sgN t N p) vs := vs_ok hpN hvs
    obtain ⟨d1, x1, x2, x3, x4, x5⟩ := c38 (d := rw_ M 182) (Wd_T hW) hS hT hp hpN
    rw [sB_rw, hvs] at x1
    have F1 : FrX M (sB 3 M 182 d1) := Fr_3 M (x2 1 (by decide) (by decide)) x3
    have hD1 : SD (sB 3 M 182 d1) f n := SD_fr hD (fun v h1 h2 => rdf_out (by omega))
    have r0 : rdM (sB 3 M 182 d1) 182 = d1 0 := rdf_in (u := 0) (b := 182) (by decide)
    have r2 : rdM (sB 3 M 182 d1) (182 + 2) = d1 2 := rdf_in (u := 2) (b := 182) (by decide)
    have Y : RuM 57 (37, [some (.ref 8), some (.int (nQ k)), some (.int (nQ 1))], [], 0, 0) M = cnM (DoM 102 [.ref 8] (sB 3 M 182 d1)) (fun v σ' => RuM 57 (61, [some (.ref 8), some (.int (nQ k)), some (.int (nQ 1))], v.toList ++ [], 0, 0) σ') (fun E σ' => some (.inr E, σ')) := by
      rw [g57_37]
      simp (disch := omega) only [cn_l, cn_r, Option.toList, List.cons_append, List.nil_append, if_true, if_false, tk_sB, pr_sB, aOk, nQ_nat, nQ_neg, nQ_add, nQ_mul, leF, rd_sB, rd_sB0, wr_sB, wr_sB0, true_and, and_true, or_false, false_or, not_false_eq_true, true_or, or_true, w1, w3, w4, q10, nQ_lt, hk100, x1, Option.isSome_some, g57_54]
    rw [Y]
    rcases c102 (M := sB 3 M 182 d1) hW hD1 (gt_lt g2) (by rw [r0]; exact (x5 vs hvs).1) (fun j hj => by rw [r2]; exact (x5 vs hvs).2 j hj) hV with ⟨hE, y1⟩ | ⟨f1, n1, d', hE, y1, y2⟩
    · refine ⟨sB 3 M 182 d1, f, n, 0, ?_, ⟨vs, hvs, Or.inl ⟨hE, rfl, rfl⟩⟩, hD1, F1⟩
      simp (disch := omega) only [cn_l, cn_r, Option.toList, List.cons_append, List.nil_append, if_true, if_false, tk_sB, pr_sB, aOk, nQ_nat, nQ_neg, nQ_add, nQ_mul, leF, rd_sB, rd_sB0, wr_sB, wr_sB0, true_and, and_true, or_false, false_or, not_false_eq_true, true_or, or_true, y1, q10, Nat.add_zero, g57_61, g57_68, g57_69, g57_37, g57_90]
    · have F2 : FrX M (sB 17 (sB 3 M 182 d1) 9 d') := Fr_tr F1 (Fr_17 _ _)
      have W2 := Wd_fr hW F2
      have T2 := Tx_fr hT F2
      have p2 : rdM (sB 17 (sB 3 M 182 d1) 9 d') 182 2 = nQ (rcN t N p).1 := by rw [rdf_out (by omega), r0, x4]
      have e40 := c40 (d := rw_ (sB 17 (sB 3 M 182 d1) 9 d') 182) (Wd_T W2) T2 p2 (by omega) (c := 59) (by decide) (by decide)
      rw [sB_rw] at e40
      have F3 : ∀ q, FrX M (sB 3 (sB 17 (sB 3 M 182 d1) 9 d') 182 (acF (rw_ (sB 17 (sB 3 M 182 d1) 9 d') 182) q)) := fun q => Fr_tr F2 (Fr_3 _ rfl rfl)
      have w1' : tkM (sB 17 (sB 3 M 182 d1) 9 d') 8 = (1, 4) := w1
      rcases hnx with hnx | ⟨c59, hiv'⟩
      · have n59 : ¬ sgN t N (rcN t N p).1 = 59 := by rw [hnx, sg_L]; decide
        rw [if_neg n59, if_neg n59] at e40
        refine ⟨_, f1, n1, 1, ?_, ⟨vs, hvs, Or.inr ⟨f1, n1, hE, Or.inr ⟨n59, hnx, rfl, rfl⟩⟩⟩, SD_fr y2 (fun v h1 h2 => ?_), F3 (rcN t N p).1⟩
        · simp (disch := omega) only [cn_l, cn_r, Option.toList, List.cons_append, List.nil_append, if_true, if_false, tk_sB, pr_sB, aOk, nQ_nat, nQ_neg, nQ_add, nQ_mul, leF, rd_sB, rd_sB0, wr_sB, wr_sB0, true_and, and_true, or_false, false_or, not_false_eq_true, true_or, or_true, y1, q10, w1, w3, w4, e40, g57_61, g57_69, g57_86, g57_37, g57_90]
        · exact rdf_out (by omega)
      · have hlt := sg_lt (t := t) (L := N) (p := (rcN t N p).1) (by omega)
        rw [if_pos c59, if_pos c59] at e40
        obtain ⟨M', f', n', k', u1, u2, u3, u4⟩ := ih ((rcN t N p).1 + 1) (k + 1) n1 f1 _ (Wd_fr hW (F3 _)) (SR_fr hS (F3 _)) (Tx_fr hT (F3 _)) (by
          rw [show rdM (sB 3 (sB 17 (sB 3 M 182 d1) 9 d') 182 (acF (rw_ (sB 17 (sB 3 M 182 d1) 9 d') 182) ((rcN t N p).1 + 1))) 182 = acF (rw_ (sB 17 (sB 3 M 182 d1) 9 d') 182) ((rcN t N p).1 + 1) 0 from rdf_in (u := 0) (b := 182) (by decide)]
          rfl) (by omega) hiv' (by omega) (SD_fr y2 (fun v h1 h2 => rdf_out (by omega)))
        refine ⟨M', f', n', k' + 1, ?_, ⟨vs, hvs, Or.inr ⟨f1, n1, hE, Or.inl ⟨c59, k', rfl, u2⟩⟩⟩, u3, Fr_tr (F3 _) u4⟩
        rw [show k + (k' + 1) = k + 1 + k' by omega, ← u1]
        simp (disch := omega) only [cn_l, cn_r, Option.toList, List.cons_append, List.nil_append, if_true, if_false, tk_sB, pr_sB, aOk, nQ_nat, nQ_neg, nQ_add, nQ_mul, leF, rd_sB, rd_sB0, wr_sB, wr_sB0, true_and, and_true, or_false, false_or, not_false_eq_true, true_or, or_true, y1, q10, w1, w3, w4, e40, g57_61, g57_69, g57_86]
theorem iv_le (t : Nat → Nat) (L : Nat) (h100 : L ≤ 100) : ∀ m p, p ≤ L → (ivN t L m p).1 ≤ L
  | 0, p, hp => hp
  | m + 1, p, hp => by
    unfold ivN
    have := (rcN_le (t := t) hp).1.2
    split
    · exact this
    · split
      · exact Nat.le_refl L
      · split
        · next c =>
          have hlt := sg_lt (t := t) (L := L) (p := (rcN t L p).1) (by omega)
          exact iv_le t L h100 m _ (by omega)
        · exact this
section Dg
variable {σ : Mem} {b : Nat} {d : Nat → Nat → Int32} {t : Nat → Nat} {L : Nat}
theorem m153_1 (h : ShM σ b) (hT : TxM d t L) (hv : ¬ (ivN t L 101 0).2 = true) : ∃ D, DoM 153 [.ref b] (sB 7 σ b d) = some (.inl (some (.int (nQ 0))), sB 7 σ b D) ∧ (∀ u, ¬ u = 0 → ¬ u = 4 → D u = d u) ∧ D 0 0 = nQ 1 ∧ D 0 2 = d 0 2 ∧ D 0 5 = d 0 5 := by
  have h0 := h.2.1
  obtain ⟨d1, x1, x2, x3, x4⟩ := m150 h hT
  rw [if_neg hv] at x1
  refine ⟨thF d1 1, ?_, fun u h1 h2 => (rX_n h1).trans (x2 u h1 h2), rfl, x3 2 (by decide) (by decide), x3 5 (by decide) (by decide)⟩
  refine (g153_0).trans ?_
  simp (disch := omega) only [aOk, eq_self, tk_sB, pr_sB, tk_wr, pr_wr, nQ_nat, nQ_neg, nQ_add, nQ_mul, nQ_lt, leF, ltT, ltF, rd_sB, rd_sB0, wr_sB, wr_sB0, cn_l, cn_r, Option.toList, List.cons_append, List.nil_append, if_true, if_false, true_and, and_true, or_false, false_or, true_or, or_true, not_false_eq_true, not_true_eq_false, and_false, false_and, zb_0, zb_1, q10, h0, x1, m107 h, q10, g153_5, g153_13, g153_16]
theorem m153_0 (h : ShM σ b) (hT : TxM d t L) (hv : (ivN t L 101 0).2 = true) {n c k : Nat} {f' : Nat → Int32} (hc : d 0 2 = nQ c) (h6 : c ≤ 6) (hn : kpF (d 1) c 4 = nQ n) (h60 : n ≤ 60) (hI : InvF (kpF (d 1) c) n) (hR : RnR t L 101 (kpF (d 1) c) n 0 f' k) : ∃ D, DoM 153 [.ref b] (sB 7 σ b d) = some (.inl (some (.int (nQ k))), sB 7 σ b D) ∧ D 1 = f' ∧ D 2 = d 2 ∧ D 3 = d 3 ∧ D 0 0 = nQ 0 ∧ D 0 2 = nQ (csN c) ∧ D 0 5 = d 0 5 ∧ ∀ i, 357 ≤ i → D 1 i = kpF (d 1) c i := by
  have h0 := h.2.1
  obtain ⟨d1, x1, x2, x3, x4⟩ := m150 h hT
  rw [if_pos hv] at x1
  have e1 : d1 1 = d 1 := x2 1 (by decide) (by decide)
  have e2 : d1 2 = d 2 := x2 2 (by decide) (by decide)
  have e3 : d1 3 = d 3 := x2 3 (by decide) (by decide)
  have hc1 : d1 0 2 = nQ c := (x3 2 (by decide) (by decide)).trans hc
  have e5 : d1 0 5 = d 0 5 := x3 5 (by decide) (by decide)
  have hT1 : TxM (atF (kdF d1 c) 0) t L := ⟨e5.trans hT.1, hT.2.1, fun i hi => by show d1 3 i = _ ∧ _; rw [e3]; exact hT.2.2 i hi⟩
  have f1 : atF (kdF d1 c) 0 1 = kpF (d 1) c := by
    show kpF (d1 1) c = _
    rw [e1]
  obtain ⟨D, y1, y2, y3, y4, y5, y6⟩ := m153_l h 101 0 0 n k (atF (kdF d1 c) 0) f' hT1 rfl (Nat.zero_le _) (by rw [f1]; exact hn) h60 (by rw [f1]; exact hI) (by rw [f1]; exact hR)
  refine ⟨D, ?_, y2, ?_, ?_, ?_, ?_, ?_, fun i hi => ?_⟩
  · rw [Nat.zero_add] at y1
    refine (g153_0).trans ?_
    simp (disch := omega) only [aOk, eq_self, tk_sB, pr_sB, tk_wr, pr_wr, nQ_nat, nQ_neg, nQ_add, nQ_mul, nQ_lt, leF, ltT, ltF, rd_sB, rd_sB0, wr_sB, wr_sB0, cn_l, cn_r, Option.toList, List.cons_append, List.nil_append, if_true, if_false, true_and, and_true, or_false, false_or, true_or, or_true, not_false_eq_true, not_true_eq_false, and_false, false_and, zb_0, zb_1, q10, h0, x1, m107 h, q10, g153_5, g153_13]
    rw [g153_16]
    simp (disch := omega) only [aOk, eq_self, tk_sB, pr_sB, tk_wr, pr_wr, nQ_nat, nQ_neg, nQ_add, nQ_mul, nQ_lt, leF, ltT, ltF, rd_sB, rd_sB0, wr_sB, wr_sB0, cn_l, cn_r, Option.toList, List.cons_append, List.nil_append, if_true, if_false, true_and, and_true, or_false, false_or, true_or, or_true, not_false_eq_true, not_true_eq_false, and_false, false_and, zb_0, zb_1, q10, h0, q10, mk133 h hc1 h6]
    simp (disch := omega) only [cn_l, tk_sB, h0, if_true, if_false, wr_sB0, Option.toList, List.nil_append, g153_25, g153_30]
    exact y1
  · exact y3.trans e2
  · exact y4.trans e3
  · exact y5 0 (by decide) (by decide)
  · exact y5 2 (by decide) (by decide)
  · exact (y5 5 (by decide) (by decide)).trans e5
  · rw [y6 i hi, f1]
end Dg
section Dh
variable {L : Nat} {xs : Nat → Int32} {τ : Mem}
theorem s57 (h : RW L xs τ) : StW L xs 200 153 [] τ := by
  have hM : ShM τ 186 := h.1.1.2.2.2
  have w1 : tkM τ 8 = (1, 4) := h.1.1.1.1
  have w3 : prM τ 8 6 = 182 := h.1.1.1.2.2.2.2.2.2.1
  have w4 : tkM τ 182 = (1, 3) := h.1.1.2.2.1.2.2.2.1
  have w0 : tkM τ 193 = (5, 1) := h.1.1.2.2.1.2.2.2.2.2.2.2.2.2
  obtain ⟨t, N, hT, a4, a5⟩ := id h.2.2.2
  have hTC : TxC (rw_ τ 182) t N := ⟨a4, hT.2.1, fun i hi => ⟨a5 i hi, (hT.2.2 i hi).2⟩⟩
  obtain ⟨d1, x1, x2, x3⟩ := c37 (d := rw_ τ 182) (Wd_T h.1.1) (St_R h.1.2) hTC
  rw [sB_rw] at x1
  have F1 : FrX τ (sB 3 τ 182 d1) := Fr_3 τ (x2 1 (by decide) (by decide)) x3
  have hRW1 : RW L xs (sB 3 τ 182 d1) := RW_same h rfl rfl (fun v hv => by
    by_cases e2 : v = 183
    · subst e2
      exact (rdf_in (u := 1) (b := 182) (by decide)).trans (x2 1 (by decide) (by decide))
    · rw [rdf_out (by omega)]) (by rw [rdf_out (by omega)]) ((congrFun (rdf_in (u := 0) (b := 182) (by decide)) 1).trans x3) (by rw [rdf_out (by omega)]) (by rw [rdf_out (by omega)])
  by_cases hv : (ivN t N 101 0).2 = true
  · rw [if_pos hv] at x1
    obtain ⟨τ1, c, hK⟩ := Kp_ex hRW1
    obtain ⟨n, kR, kF, kI, -, -, krow⟩ := Kp_n hRW1 hK
    have eF : rdM (sB 3 τ 182 d1) 187 = rdM τ 187 := rdf_out (by omega)
    rw [eF] at kR kF kI
    obtain ⟨k1, ⟨kW, kS⟩, ⟨kc, k6⟩, k4, k5, kfin⟩ := id hK
    have v1 : tkM τ1 8 = (1, 4) := kW.1.1
    have v3 : prM τ1 8 6 = 182 := kW.1.2.2.2.2.2.2.1
    have v4 : tkM τ1 182 = (1, 3) := kW.2.2.1.2.2.2.1
    have v0 : tkM τ1 193 = (5, 1) := kW.2.2.1.2.2.2.2.2.2.2.2.2
    have F2 : FrX τ1 (wrM τ1 182 2 (nQ 0)) := ⟨rfl, rfl, fun v h1 h2 h3 => rdf_wr h2, @if_neg ((182 : Nat) = 182 ∧ (1 : Nat) = 2) inferInstance (by omega) Int32 (nQ 0) (rdM τ1 182 1)⟩
    have T1 : TxC (rw_ τ1 182) t N := by
      have T0 := Tx_fr hTC F1
      obtain ⟨b1, b2, b3⟩ := T0
      refine ⟨?_, b2, fun i hi => ?_⟩
      · show rdM τ1 182 1 = _
        rw [k5 182 (by omega)]
        exact b1
      · show rdM τ1 183 i = _ ∧ _
        rw [k5 183 (by omega)]
        exact b3 i hi
    obtain ⟨M', f', n', k', u1, u2, u3, u4⟩ := c57_l (t := t) (N := N) 101 0 0 n (kpF (rdM τ 187) c) (wrM τ1 182 2 (nQ 0)) kW (SR_fr (St_R kS) F2) (Tx_fr T1 F2) (rd_wr_s _ _ _ _) (Nat.zero_le _) hv (Nat.le_refl 0) (SD_fr (M := τ1) ⟨kR, kF, kI⟩ (fun v h1 h2 => rdf_wr (by omega)))
    rw [Nat.zero_add] at u1
    have F3 : FrX τ1 M' := Fr_tr F2 u4
    have hcls : DoM 57 [.ref 8] τ = some (.inl (some (.int (nQ k'))), M') := by
      refine (g57_0).trans ?_
      simp (disch := omega) only [cn_l, cn_r, Option.toList, List.cons_append, List.nil_append, if_true, if_false, tk_sB, pr_sB, aOk, nQ_nat, nQ_neg, nQ_add, nQ_mul, leF, rd_sB, rd_sB0, wr_sB, wr_sB0, true_and, and_true, or_false, false_or, not_false_eq_true, true_or, or_true, w1, w3, w4, x1, k1, v1, v3, v4, g57_7, g57_25, g57_33]
      exact u1
    have hw := w200_r (σ' := M') w1 (by rw [F3.1]; exact v0) hcls
    have em : ∀ v, 186 ≤ v → v < 193 → rdM (wrM M' 193 0 (nQ k')) v = rdM τ v := fun v h1 h2 => by
      rw [rdf_wr (by omega), F3.2.2.1 v (by omega) (by omega) (by omega), k5 v (by omega), rdf_out (by omega)]
    have hMm : ShM (wrM M' 193 0 (nQ k')) 186 := by
      show ShM M' 186
      exact SM_cg kW.2.2.2 F3.1 (by rw [F3.2.1])
    have kc' : rdM τ 186 2 = nQ c := by
      rw [rdf_out (by omega)] at kc
      exact kc
    obtain ⟨D, z1, z2, z3, z4, z5, z6, z7, z8⟩ := m153_0 (σ := wrM M' 193 0 (nQ k')) (b := 186) (d := rw_ τ 186) hMm hT hv (n := n) kc' k6 kF.2.1 kF.2.2.1 kI u2
    rw [sB_rw2 (fun v h1 h2 => em v h1 (by omega))] at z1
    have r0 : rdM (sB 7 (wrM M' 193 0 (nQ k')) 186 D) 186 = D 0 := rdf_in (u := 0) (b := 186) (by decide)
    have r1 : rdM (sB 7 (wrM M' 193 0 (nQ k')) 186 D) 187 = D 1 := rdf_in (u := 1) (b := 186) (by decide)
    have r2 : rdM (sB 7 (wrM M' 193 0 (nQ k')) 186 D) 188 = D 2 := rdf_in (u := 2) (b := 186) (by decide)
    have r3 : rdM (sB 7 (wrM M' 193 0 (nQ k')) 186 D) 189 = D 3 := rdf_in (u := 3) (b := 186) (by decide)
    have ro : ∀ v, ¬ (186 ≤ v ∧ v < 186 + 7) → ¬ v = 193 → rdM (sB 7 (wrM M' 193 0 (nQ k')) 186 D) v = rdM M' v := fun v h1 h2 => by rw [rdf_out h1, rdf_wr h2]
    refine ⟨_, _, 0, _, hw, z1, by decide, by rw [r0, z5], fun _ => ?_, EqI_s _ _, kfin _ F3.1 F3.2.1 (fun v hv => ?_) ?_ ?_ ?_ ?_ (fun i hi => ?_) ?_⟩
    · rw [rdf_out (by omega)]
      exact rd_wr_s _ _ _ _
    · by_cases e : v = 188
      · subst e
        rw [r2, z3, k5 188 (by omega), rdf_out (by omega)]
        rfl
      · by_cases e' : v = 189
        · subst e'
          rw [r3, z4, k5 189 (by omega), rdf_out (by omega)]
          rfl
        · rw [ro v (by omega) (by omega)]
          exact F3.2.2.1 v (by omega) (by omega) (by omega)
    · rw [ro 8 (by omega) (by omega), F3.2.2.1 8 (by omega) (by omega) (by omega)]
    · rw [ro 182 (by omega) (by omega), F3.2.2.2]
    · rw [r0, z7, k5 186 (by omega), rdf_out (by omega)]
      rfl
    · rw [r0, z6]
    · rw [r1, z8 i hi, eF]
      rfl
    · rw [r1, z2]
      refine RS_d (d := rw_ M' 9) ⟨n', u3.1, u3.2.1, u3.2.2⟩ (fun u hu => ?_)
      exact ro (9 + u) (by omega) (by omega)
  · rw [if_neg hv] at x1
    have hcls : DoM 57 [.ref 8] τ = some (.inr 3, sB 3 τ 182 d1) := by
      have hpl : (nQ (ivN t N 101 0).1 = -1) = False := nQ_m1 (by
        have := iv_le t N hT.2.1 101 0 (Nat.zero_le _)
        have := hT.2.1
        omega)
      refine (g57_0).trans ?_
      simp (disch := omega) only [cn_l, cn_r, Option.toList, List.cons_append, List.nil_append, if_true, if_false, tk_sB, pr_sB, aOk, nQ_nat, nQ_neg, nQ_add, nQ_mul, leF, rd_sB, rd_sB0, wr_sB, wr_sB0, true_and, and_true, or_false, false_or, not_false_eq_true, true_or, or_true, w1, w3, w4, x1, hpl, g57_7]
    have hw := w200_E3 w1 hcls
    obtain ⟨D, z1, z2, z3, z4, z5⟩ := m153_1 (σ := sB 3 τ 182 d1) (d := rw_ τ 186) hM hT hv
    rw [sB_rw2 (fun v h1 h2 => rdf_out (by omega))] at z1
    have r0 : rdM (sB 7 (sB 3 τ 182 d1) 186 D) 186 = D 0 := rdf_in (u := 0) (b := 186) (by decide)
    refine ⟨_, _, 1, _, hw, z1, by decide, by rw [r0, z3], fun z => absurd z (by decide), EqI_s _ _, RW_same hRW1 rfl rfl (fun v hv => ?_) ?_ ?_ ?_ ?_⟩
    · by_cases e : 187 ≤ v
      · rcases (show v = 187 ∨ v = 188 ∨ v = 189 by omega) with rfl | rfl | rfl
        · rw [rdf_out (n := 3) (by omega)]
          exact (rdf_in (u := 1) (b := 186) (by decide)).trans (z2 1 (by decide) (by decide))
        · rw [rdf_out (n := 3) (by omega)]
          exact (rdf_in (u := 2) (b := 186) (by decide)).trans (z2 2 (by decide) (by decide))
        · rw [rdf_out (n := 3) (by omega)]
          exact (rdf_in (u := 3) (b := 186) (by decide)).trans (z2 3 (by decide) (by decide))
      · rw [rdf_out (n := 7) (by omega)]
    · rw [rdf_out (n := 7) (by omega)]
    · rw [rdf_out (n := 7) (by omega)]
    · rw [r0, z5, rdf_out (by omega)]
      rfl
    · rw [r0, z4, rdf_out (by omega)]
      rfl
end Dh
