/-! Undo, slots, the text's buffer, on both sides. -/
theorem cp_hi (F : Nat → Int32) (p q : Nat) {i : Nat} (h : ¬ (357 * q ≤ i ∧ i < 357 * q + 357)) : cpF F p q i = F i := if_neg h
theorem cp_lo (F : Nat → Int32) (p : Nat) {q i : Nat} (h : i < 357) : cpF F p q (357 * q + i) = F (357 * p + i) := by
  unfold cpF cpK
  rw [if_pos (by omega)]
  exact congrArg F (by omega)
section Sx
variable {L : Nat} {xs : Nat → Int32} {τ : Mem}
theorem RW_mk (h : RW L xs τ) {σf : Mem} (f1 : tkM σf = tkM τ) (f2 : prM σf = prM τ) (f3 : ∀ v, v < 8 ∨ (44 ≤ v ∧ v < 146) → rdM σf v = rdM τ v) {c c' : Nat} (hc : rdM τ 186 2 = nQ c) (hc6 : c ≤ 6) (hcc : c' ≤ c) (e1 : rdM σf 8 3 = nQ c') (e2 : rdM σf 186 2 = nQ c') (h0 : RlS (rw_ σf 9) (rdM σf 187)) (hb : ∀ i, 357 ≤ i → i < 2499 → rdM σf 187 i = rdM τ 187 i) (hsl : ∀ i, i < 2 → rdM σf 181 i = rdM σf 188 i ∧ (rdM σf 188 i = nQ 0 ∨ (rdM σf 188 i = nQ 1 ∧ RlS (rw_ σf (147 + 17 * i)) (bkF (rdM σf 187) (7 + i))))) (hT : TxX σf) : RW L xs σf := by
  obtain ⟨⟨hW, hS⟩, ⟨π, k, ⟨hP, hk, h6, hk2⟩, -, hs⟩, -, -⟩ := h
  have ek : k = c := by
    rw [hk2, nQ_eq (by omega) (by omega)] at hc
    exact hc
  refine ⟨⟨Wd_cg hW f1 (fun v hv => by rw [f2]), St_cg hS f1 (fun v hv => f3 v (by omega))⟩, ⟨π, c', ⟨?_, e1, by omega, e2⟩, by rw [bk_0]; exact h0, fun i hi => ?_⟩, hsl, hT⟩
  · unfold PmR
    rw [f2]
    exact hP
  · refine RS_d (RS_f (hs i (by omega)) (fun j hj => ?_)) (rw_cg (fun v h1 h2 => f3 v (by have := (hP.1 i (by omega)).2; omega)))
    show rdM σf 187 (357 * (i + 1) + j) = rdM τ 187 (357 * (i + 1) + j)
    exact hb _ (by omega) (by omega)
theorem s58 (h : RW L xs τ) : StW L xs 201 154 [] τ := by
  obtain ⟨n, hR, hF, hI⟩ := RW_n h
  have hM : ShM τ 186 := h.1.1.2.2.2
  have w1 : tkM τ 8 = (1, 4) := h.1.1.1.1
  have w2 : prM τ 8 0 = 9 := h.1.1.1.2.1
  have w0 : tkM τ 193 = (5, 1) := h.1.1.2.2.1.2.2.2.2.2.2.2.2.2
  have hs : ShS τ 9 := h.1.1.2.1.1
  obtain ⟨⟨hW, hS⟩, ⟨π, c, ⟨hP, hc, h6, hc2⟩, h0, hsv⟩, hl, hT⟩ := id h
  by_cases hz : c = 0
  · subst hz
    refine StW_E h (k := 1) (by decide) (by decide) (w201_E3 w1 ?_) (m154_1 hM hc2)
    refine (g58_0).trans ?_
    simp (disch := omega) only [cn_l, cn_r, Option.toList, List.cons_append, List.nil_append, if_true, if_false, tk_sB, pr_sB, w1, hc, nQ_lt, Nat.lt_irrefl, g58_27, g58_43]
  · obtain ⟨c0, rfl⟩ : ∃ c0, c = c0 + 1 := ⟨c - 1, by omega⟩
    obtain ⟨p1, p2⟩ := hP.1 c0 (by omega)
    have w3 : prM τ 8 2 = 43 := hW.1.2.2.2.1
    have w4 : tkM τ 43 = (6, 6) := hW.2.2.1.1
    obtain ⟨d', y1, y2⟩ := c15 (σ := wrM τ 8 3 (nQ c0)) (b := 9) (a := 44 + 17 * π c0) (d := rw_ (wrM τ 8 3 (nQ c0)) 9) hs (hW.2.1.2.2.1 (π c0) p2) (by omega) (fun u hu => by
      rw [rdf_wr (by omega)]
      exact RS_bool (hsv c0 (by omega)) u hu)
    rw [sB_rw] at y1
    have hcls : DoM 58 [.ref 8] τ = some (.inl (some (.int (nQ c0))), sB 17 (wrM τ 8 3 (nQ c0)) 9 d') := by
      have z1 : rdM (wrM τ 8 3 (nQ c0)) 8 3 = nQ c0 := rd_wr_s _ _ _ _
      have z2 : rdM (sB 17 (wrM τ 8 3 (nQ c0)) 9 d') 8 3 = nQ c0 := (rd_out (by omega) 3).trans z1
      have z3 : nQ 0 < nQ (c0 + 1) := by rw [nQ_lt (by decide) (by omega)]; omega
      refine (g58_0).trans ?_
      simp (disch := omega) only [cn_l, cn_r, Option.toList, List.cons_append, List.nil_append, if_true, if_false, tk_sB, pr_sB, aOk, nQ_nat, nQ_neg, nQ_add, nQ_mul, leF, rd_sB, rd_sB0, wr_sB, wr_sB0, true_and, and_true, or_false, false_or, not_false_eq_true, tk_wr, pr_wr, w1, w2, w3, w4, hs.2.1.1, p1, hc, z1, z2, z3, nQ_sub, Nat.add_sub_cancel, y1, g58_27, g58_43]
    have hw := w201_r (σ' := sB 17 (wrM τ 8 3 (nQ c0)) 9 d') w1 w0 hcls
    have hm := m154_0 (σ := wrM (sB 17 (wrM τ 8 3 (nQ c0)) 9 d') 193 0 (nQ c0)) (d := rw_ τ 186) hM hc2 (by omega)
    rw [sB_rw2 (fun v h1 h2 => by rw [rdf_wr (by omega), rdf_out (by omega), rdf_wr (by omega)])] at hm
    have r0 : ∀ D, rdM (sB 7 (wrM (sB 17 (wrM τ 8 3 (nQ c0)) 9 d') 193 0 (nQ c0)) 186 D) 186 = D 0 := fun D => rdf_in (u := 0) (b := 186) (by decide)
    have r1 : ∀ D, rdM (sB 7 (wrM (sB 17 (wrM τ 8 3 (nQ c0)) 9 d') 193 0 (nQ c0)) 186 D) 187 = D 1 := fun D => rdf_in (u := 1) (b := 186) (by decide)
    have r2 : ∀ D, rdM (sB 7 (wrM (sB 17 (wrM τ 8 3 (nQ c0)) 9 d') 193 0 (nQ c0)) 186 D) 188 = D 2 := fun D => rdf_in (u := 2) (b := 186) (by decide)
    have r3 : ∀ D, rdM (sB 7 (wrM (sB 17 (wrM τ 8 3 (nQ c0)) 9 d') 193 0 (nQ c0)) 186 D) 189 = D 3 := fun D => rdf_in (u := 3) (b := 186) (by decide)
    have ro : ∀ D v, ¬ (186 ≤ v ∧ v < 186 + 7) → ¬ v = 193 → ¬ (9 ≤ v ∧ v < 9 + 17) → ¬ v = 8 → rdM (sB 7 (wrM (sB 17 (wrM τ 8 3 (nQ c0)) 9 d') 193 0 (nQ c0)) 186 D) v = rdM τ v := fun D v h1 h2 h3 h4 => by
      rw [rdf_out h1, rdf_wr h2, rdf_out h3, rdf_wr h4]
    refine ⟨_, _, 0, _, hw, hm, by decide, by rw [r0, rX_s]; rfl, fun _ => ?_, EqI_s _ _, RW_mk h rfl rfl (fun v hv => ro _ v (by omega) (by omega) (by omega) (by omega)) hc2 h6 (c' := c0) (by omega) ?_ (by rw [r0, rX_s, up_s]) ?_ (fun i h1 h2 => ?_) (fun i hi => ?_) (Tx_cg hT (by rw [ro _ 182 (by omega) (by omega) (by omega) (by omega)]) (ro _ 183 (by omega) (by omega) (by omega) (by omega)) (by rw [r0, rX_s, up_n (by decide), up_n (by decide)]; rfl) (by rw [r3]; rfl))⟩
    · rw [rdf_out (by omega)]
      exact rd_wr_s _ _ _ _
    · rw [rdf_out (by omega), rdf_wr (by omega), rdf_out (by omega)]
      exact rd_wr_s _ _ _ _
    · rw [r1]
      refine RS_d (RS_eq (RS_f (hsv c0 (by omega)) (fun j hj => ?_)) (EqS_s y2 (fun u hu => ?_))) (fun u hu => ?_)
      · show cpF (rdM τ 187) (c0 + 1) 0 j = rdM τ 187 (357 * (c0 + 1) + j)
        have := cp_lo (rdM τ 187) (c0 + 1) (q := 0) hj
        rwa [show 357 * 0 + j = j by omega] at this
      · funext i
        show rdM τ (44 + 17 * π c0 + u) i = rdM (wrM τ 8 3 (nQ c0)) (44 + 17 * π c0 + u) i
        rw [rdf_wr (by omega)]
      · show rdM (sB 7 (wrM (sB 17 (wrM τ 8 3 (nQ c0)) 9 d') 193 0 (nQ c0)) 186 _) (9 + u) = d' u
        rw [rdf_out (by omega), rdf_wr (by omega), rdf_in hu]
    · rw [r1]
      exact cp_hi _ _ _ (by omega)
    · obtain ⟨g1, g2⟩ := hl i hi
      rw [ro _ 181 (by omega) (by omega) (by omega) (by omega), r2]
      refine ⟨g1, ?_⟩
      rcases g2 with g2 | ⟨g2, g3⟩
      · exact Or.inl g2
      · refine Or.inr ⟨g2, RS_d (RS_f g3 (fun j hj => ?_)) (rw_cg (fun v h1 h2 => ro _ v (by omega) (by omega) (by omega) (by omega)))⟩
        rw [r1]
        exact cp_hi _ _ _ (by omega)
theorem s59 (h : RW L xs τ) (v : Int32) : StW L xs 202 155 [.int v] τ := by
  obtain ⟨n, hR, hF, hI⟩ := RW_n h
  have hM : ShM τ 186 := h.1.1.2.2.2
  have w1 : tkM τ 8 = (1, 4) := h.1.1.1.1
  have w2 : prM τ 8 0 = 9 := h.1.1.1.2.1
  have w0 : tkM τ 193 = (5, 1) := h.1.1.2.2.1.2.2.2.2.2.2.2.2.2
  have hs : ShS τ 9 := h.1.1.2.1.1
  obtain ⟨⟨hW, hS⟩, ⟨π, c, ⟨hP, hc, h6, hc2⟩, h0, hsv⟩, hl, hT⟩ := id h
  by_cases hx : inP v (nQ 0) (nQ 1)
  · obtain ⟨i, hi, rfl⟩ := in_ex hx (by decide)
    obtain ⟨p1, p2⟩ := hW.2.1.2.2.2 i (by omega)
    have w3 : prM τ 8 4 = 146 := hW.1.2.2.2.2.1
    have w4 : tkM τ 146 = (6, 2) := hW.2.2.1.2.1
    have w5 : prM τ 8 5 = 181 := hW.1.2.2.2.2.2.1
    have w6 : tkM τ 181 = (3, 2) := hW.2.2.1.2.2.1
    obtain ⟨d', y1, y2⟩ := c15 (σ := τ) (b := 147 + 17 * i) (a := 9) (d := rw_ τ (147 + 17 * i)) p2 hs (by omega) (RS_bool h0)
    rw [sB_rw] at y1
    have e0 : rdM τ 9 0 = rdM τ 187 0 := hR.1.1
    have hcls : DoM 59 [.ref 8, .int (nQ i)] τ = some (.inl (some (.int (rdM τ 187 0))), wrM (sB 17 τ (147 + 17 * i) d') 181 i (nQ 1)) := by
      have z1 : rdM (wrM (sB 17 τ (147 + 17 * i) d') 181 i (nQ 1)) 9 0 = rdM τ 187 0 := by
        rw [rdf_wr (by omega), rdf_out (by omega), e0]
      have z2 : nQ 1 &&& nQ 1 = nQ 1 := by decide
      refine (g59_0).trans ?_
      simp (disch := omega) only [cn_l, cn_r, Option.toList, List.cons_append, List.nil_append, if_true, if_false, tk_sB, pr_sB, aOk, nQ_nat, nQ_neg, nQ_add, nQ_mul, leF, rd_sB, rd_sB0, wr_sB, wr_sB0, true_and, and_true, or_false, false_or, not_false_eq_true, c96, eq_true hx, tk_wr, pr_wr, w1, w2, w3, w4, w5, w6, hs.2.1.1, p1, p2.2.1.1, z2, y1, z1, g59_4, g59_17, g59_24]
    have hw := w202_r (σ' := wrM (sB 17 τ (147 + 17 * i) d') 181 i (nQ 1)) w1 w0 hcls
    have hm := m155_0 (σ := wrM (wrM (sB 17 τ (147 + 17 * i) d') 181 i (nQ 1)) 193 0 (rdM τ 187 0)) (d := rw_ τ 186) hM (i := i) (by omega)
    rw [sB_rw2 (fun v h1 h2 => by rw [rdf_wr (by omega), rdf_wr (by omega), rdf_out (by omega)])] at hm
    have r0 : ∀ D, rdM (sB 7 (wrM (wrM (sB 17 τ (147 + 17 * i) d') 181 i (nQ 1)) 193 0 (rdM τ 187 0)) 186 D) 186 = D 0 := fun D => rdf_in (u := 0) (b := 186) (by decide)
    have r1 : ∀ D, rdM (sB 7 (wrM (wrM (sB 17 τ (147 + 17 * i) d') 181 i (nQ 1)) 193 0 (rdM τ 187 0)) 186 D) 187 = D 1 := fun D => rdf_in (u := 1) (b := 186) (by decide)
    have r2 : ∀ D, rdM (sB 7 (wrM (wrM (sB 17 τ (147 + 17 * i) d') 181 i (nQ 1)) 193 0 (rdM τ 187 0)) 186 D) 188 = D 2 := fun D => rdf_in (u := 2) (b := 186) (by decide)
    have r3 : ∀ D, rdM (sB 7 (wrM (wrM (sB 17 τ (147 + 17 * i) d') 181 i (nQ 1)) 193 0 (rdM τ 187 0)) 186 D) 189 = D 3 := fun D => rdf_in (u := 3) (b := 186) (by decide)
    have ro : ∀ D v, ¬ (186 ≤ v ∧ v < 186 + 7) → ¬ v = 193 → ¬ v = 181 → ¬ (147 + 17 * i ≤ v ∧ v < 147 + 17 * i + 17) → rdM (sB 7 (wrM (wrM (sB 17 τ (147 + 17 * i) d') 181 i (nQ 1)) 193 0 (rdM τ 187 0)) 186 D) v = rdM τ v := fun D v h1 h2 h3 h4 => by
      rw [rdf_out h1, rdf_wr h2, rdf_wr h3, rdf_out h4]
    refine ⟨_, _, 0, _, hw, hm, by decide, by rw [r0]; rfl, fun _ => ?_, EqI_s _ _, RW_mk h rfl rfl (fun v hv => ro _ v (by omega) (by omega) (by omega) (by omega)) hc2 h6 (c' := c) (Nat.le_refl _) ?_ (by rw [r0]; exact hc2) ?_ (fun j h1 h2 => ?_) (fun j hj => ?_) (Tx_cg hT (by rw [ro _ 182 (by omega) (by omega) (by omega) (by omega)]) (ro _ 183 (by omega) (by omega) (by omega) (by omega)) (by rw [r0]; rfl) (by rw [r3]; rfl))⟩
    · rw [rdf_out (by omega)]
      exact rd_wr_s _ _ _ _
    · rw [ro _ 8 (by omega) (by omega) (by omega) (by omega)]
      exact hc
    · rw [r1]
      rw [bk_0] at h0
      refine RS_d (RS_f h0 (fun j hj => ?_)) (rw_cg (fun v h1 h2 => ro _ v (by omega) (by omega) (by omega) (by omega)))
      rw [rX_n (by decide), rX_s]
      exact cp_hi _ _ _ (by omega)
    · rw [r1, rX_n (by decide), rX_s]
      exact cp_hi _ _ _ (by omega)
    · have e181 : rdM (sB 7 (wrM (wrM (sB 17 τ (147 + 17 * i) d') 181 i (nQ 1)) 193 0 (rdM τ 187 0)) 186 (rX (rX (thF (rw_ τ 186) 0) 1 (cpF (rw_ τ 186 1) 0 (7 + i))) 2 (up (rw_ τ 186 2) i (nQ 1)))) 181 j = up (rdM τ 181) i (nQ 1) j := by
        rw [rdf_out (by omega), rdf_wr (by omega)]
        show (if 181 = 181 ∧ j = i then nQ 1 else rdM (sB 17 τ (147 + 17 * i) d') 181 j) = if j = i then nQ 1 else rdM τ 181 j
        rw [rdf_out (by omega)]
        simp only [true_and]
      rw [e181, r2, r1, rX_s, rX_n (by decide), rX_s]
      by_cases e : j = i
      · subst e
        rw [up_s, up_s]
        refine ⟨rfl, Or.inr ⟨rfl, ?_⟩⟩
        refine RS_d (RS_eq (RS_f h0 (fun k hk => ?_)) y2) (fun u hu => ?_)
        · exact cp_lo (rdM τ 187) 0 (q := 7 + j) hk
        · show rdM (sB 7 (wrM (wrM (sB 17 τ (147 + 17 * j) d') 181 j (nQ 1)) 193 0 (rdM τ 187 0)) 186 _) (147 + 17 * j + u) = d' u
          rw [rdf_out (by omega), rdf_wr (by omega), rdf_wr (by omega), rdf_in hu]
      · obtain ⟨g1, g2⟩ := hl j hj
        rw [up_n e, up_n e]
        refine ⟨g1, ?_⟩
        rcases g2 with g2 | ⟨g2, g3⟩
        · exact Or.inl g2
        · refine Or.inr ⟨g2, RS_d (RS_f g3 (fun k hk => ?_)) (rw_cg (fun v h1 h2 => ro _ v (by omega) (by omega) (by omega) (by omega)))⟩
          exact cp_hi _ _ _ (by omega)
  · refine StW_E h (k := 1) (by decide) (by decide) (w202_E1 w1 ?_) (m155_1 hM hx)
    refine (g59_0).trans ?_
    simp (disch := omega) only [cn_l, cn_r, Option.toList, List.cons_append, List.nil_append, if_true, if_false, tk_sB, pr_sB, c96, eq_false hx, g59_4, g59_17, g59_24]
theorem s60 (h : RW L xs τ) (v : Int32) : StW L xs 203 156 [.int v] τ := by
  obtain ⟨n, hR, hF, hI⟩ := RW_n h
  have hM : ShM τ 186 := h.1.1.2.2.2
  have w1 : tkM τ 8 = (1, 4) := h.1.1.1.1
  have w2 : prM τ 8 0 = 9 := h.1.1.1.2.1
  have w0 : tkM τ 193 = (5, 1) := h.1.1.2.2.1.2.2.2.2.2.2.2.2.2
  have hs : ShS τ 9 := h.1.1.2.1.1
  have hl := h.2.2.1
  by_cases hx : inP v (nQ 0) (nQ 1)
  · obtain ⟨i, hi, rfl⟩ := in_ex hx (by decide)
    obtain ⟨g1, g2⟩ := hl i (by omega)
    have w5 : prM τ 8 5 = 181 := h.1.1.1.2.2.2.2.2.1
    have w6 : tkM τ 181 = (3, 2) := h.1.1.2.2.1.2.2.1
    rcases g2 with g2 | ⟨g2, g3⟩
    · rw [g2] at g1
      refine StW_E h (k := 2) (by decide) (by decide) (w203_E3 w1 ?_) (m156_2 hM (by omega) g2)
      refine (g60_0).trans ?_
      simp (disch := omega) only [cn_l, cn_r, Option.toList, List.cons_append, List.nil_append, if_true, if_false, tk_sB, pr_sB, aOk, nQ_nat, nQ_neg, nQ_add, nQ_mul, leF, rd_sB, rd_sB0, wr_sB, wr_sB0, true_and, and_true, or_false, false_or, not_false_eq_true, c96, eq_true hx, w1, w5, w6, g1, g60_4, g60_27, g60_40]
    · rw [g2] at g1
      obtain ⟨τ1, c, hK⟩ := Kp_ex h
      obtain ⟨n', kR, kF, kI, kF0, kI0, krow⟩ := Kp_n h hK
      have en : n' = n := by
        have e1 := kF0.2.1
        rw [hF.2.1, nQ_eq (by have := hF.2.2.1; omega) (by have := kF0.2.2.1; omega)] at e1
        exact e1.symm
      subst en
      have v1 : tkM τ1 8 = (1, 4) := hK.2.1.1.1.1
      have v2 : prM τ1 8 0 = 9 := hK.2.1.1.1.2.1
      have v0 : tkM τ1 193 = (5, 1) := hK.2.1.1.2.2.1.2.2.2.2.2.2.2.2.2
      have hs1 : ShS τ1 9 := hK.2.1.1.2.1.1
      have hM1 : ShM τ1 186 := hK.2.1.1.2.2.2
      have k1 := Kp_w (τ' := τ) hK
      obtain ⟨p1, p2⟩ := hK.2.1.1.2.1.2.2.2 i (by omega)
      have v3 : prM τ1 8 4 = 146 := hK.2.1.1.1.2.2.2.2.1
      have v4 : tkM τ1 146 = (6, 2) := hK.2.1.1.2.2.1.2.1
      have hrow : ∀ u, u < 17 → rw_ τ1 (147 + 17 * i) u = rw_ τ (147 + 17 * i) u := rw_cg (fun v h1 h2 => hK.2.2.2.2.1 v (by omega))
      have g4 := RS_d g3 hrow
      obtain ⟨d', y1, y2⟩ := c15 (σ := τ1) (b := 9) (a := 147 + 17 * i) (d := rw_ τ1 9) hs1 p2 (by omega) (RS_bool g4)
      have g5 := RS_eq g4 y2
      have g6 : RlS d' (cpF (kpF (rdM τ 187) c) (7 + i) 0) := RS_f g5 (fun j hj => by
        have := cp_lo (kpF (rdM τ 187) c) (7 + i) (q := 0) hj
        rw [show 357 * 0 + j = j by omega] at this
        rw [this, kp_bk _ hK.2.2.1.2 (by omega) (by omega) hj]
        show _ = rdM τ 187 (357 * (7 + i) + j)
        by_cases e6 : c = 6
        · rw [if_pos e6, if_neg (by omega), if_neg (by omega)]
        · rw [if_neg e6, if_neg (by have := hK.2.2.1.2; omega)])
      have e0 : d' 0 0 = cpF (kpF (rdM τ 187) c) (7 + i) 0 0 := by
        obtain ⟨n2, q1, _⟩ := g6
        exact q1.1.1
      have hm := m156_0 (σ := wrM (sB 17 τ1 9 d') 193 0 (cpF (kpF (rdM τ 187) c) (7 + i) 0 0)) (d := rw_ τ 186) hM1 hK.2.2.1.1 hK.2.2.1.2 (i := i) (by omega) g2
      refine StW_K hK (w203_r w1 (show tkM (sB 17 τ1 9 d') 193 = (5, 1) from v0) ?_) hm rfl rfl rfl rfl rfl (by intro j hj; rw [rX_s]; exact cp_hi _ _ _ (by omega)) (by rw [rX_s]; exact g6)
      refine (g60_0).trans ?_
      rw [← e0]
      simp (disch := omega) only [cn_l, cn_r, Option.toList, List.cons_append, List.nil_append, if_true, if_false, tk_sB, pr_sB, aOk, nQ_nat, nQ_neg, nQ_add, nQ_mul, leF, rd_sB, rd_sB0, wr_sB, wr_sB0, true_and, and_true, or_false, false_or, not_false_eq_true, c96, eq_true hx, w1, w2, w5, w6, g1, q10, k1, v1, v2, v3, v4, hs1.2.1.1, hs1.2.1.2.1, hs1.2.1.2.2, hs1.2.2.1.1, hs1.2.2.1.2.1, hs1.2.2.1.2.2.1, hs1.2.2.1.2.2.2.1, hs1.2.2.1.2.2.2.2.1, hs1.2.2.1.2.2.2.2.2.1, hs1.2.2.1.2.2.2.2.2.2.1, hs1.2.2.1.2.2.2.2.2.2.2.1, hs1.2.2.1.2.2.2.2.2.2.2.2, hs1.2.2.2.1.1, hs1.2.2.2.1.2.1, hs1.2.2.2.1.2.2.1, hs1.2.2.2.1.2.2.2, hs1.2.2.2.2.1.1, hs1.2.2.2.2.1.2.1, hs1.2.2.2.2.1.2.2, hs1.2.2.2.2.2.1.1, hs1.2.2.2.2.2.1.2.1, hs1.2.2.2.2.2.1.2.2.1, hs1.2.2.2.2.2.1.2.2.2.1, hs1.2.2.2.2.2.1.2.2.2.2.1, hs1.2.2.2.2.2.1.2.2.2.2.2.1, hs1.2.2.2.2.2.1.2.2.2.2.2.2, hs1.2.2.2.2.2.2.1.1, hs1.2.2.2.2.2.2.1.2.1, hs1.2.2.2.2.2.2.1.2.2.1, hs1.2.2.2.2.2.2.1.2.2.2, hs1.2.2.2.2.2.2.2.1, hs1.2.2.2.2.2.2.2.2.1, hs1.2.2.2.2.2.2.2.2.2, le8 hs1.1, p1, y1, g60_4, g60_27, g60_40]
  · refine StW_E h (k := 1) (by decide) (by decide) (w203_E1 w1 ?_) (m156_1 hM hx)
    refine (g60_0).trans ?_
    simp (disch := omega) only [cn_l, cn_r, Option.toList, List.cons_append, List.nil_append, if_true, if_false, tk_sB, pr_sB, c96, eq_false hx, g60_4, g60_27, g60_40]
end Sx
