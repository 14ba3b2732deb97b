/-! The text's buffer, on both sides. -/
theorem ch_q : ∀ n, n < 127 → (((nQ n).toUInt32 % 65536).toInt32.toUInt32 % 65536).toInt32 = nQ n := by decide +kernel
section Sy
variable {L : Nat} {xs : Nat → Int32} {τ : Mem}
theorem RW_tx (h : RW L xs τ) {σf : Mem} (f1 : tkM σf = tkM τ) (f2 : prM σf = prM τ) (f3 : ∀ v, v < 182 ∨ v = 187 ∨ v = 188 → rdM σf v = rdM τ v) (f4 : rdM σf 186 2 = rdM τ 186 2) (hT : TxX σf) : RW L xs σf := by
  obtain ⟨⟨hW, hS⟩, ⟨π, c, ⟨hP, hc, h6, hc2⟩, h0, hsv⟩, hl, -⟩ := id h
  rw [bk_0] at h0
  refine RW_mk h f1 f2 (fun v hv => f3 v (by omega)) hc2 h6 (c' := c) (Nat.le_refl _) (by rw [f3 8 (by omega), hc]) (by rw [f4, hc2]) ?_ (fun j h1 h2 => by rw [f3 187 (by omega)]) (fun j hj => ?_) hT
  · rw [f3 187 (by omega)]
    exact RS_d h0 (rw_cg (fun v h1 h2 => f3 v (by omega)))
  · obtain ⟨g1, g2⟩ := hl j hj
    rw [f3 181 (by omega), f3 188 (by omega), f3 187 (by omega)]
    refine ⟨g1, ?_⟩
    rcases g2 with g2 | ⟨g2, g3⟩
    · exact Or.inl g2
    · exact Or.inr ⟨g2, RS_d g3 (rw_cg (fun v h1 h2 => f3 v (by omega)))⟩
theorem s55 (h : RW L xs τ) : StN L xs 55 144 τ := by
  obtain ⟨n, hR, hF, hI⟩ := RW_n h
  have hM : ShM τ 186 := h.1.1.2.2.2
  have w1 : tkM τ 8 = (1, 4) := h.1.1.1.1
  have w2 : prM τ 8 0 = 9 := h.1.1.1.2.1
  have w0 : tkM τ 193 = (5, 1) := h.1.1.2.2.1.2.2.2.2.2.2.2.2.2
  have hs : ShS τ 9 := h.1.1.2.1.1
  obtain ⟨t, N, ⟨a1, a2, a3⟩, a4, a5⟩ := id h.2.2.2
  have w3 : prM τ 8 6 = 182 := h.1.1.1.2.2.2.2.2.2.1
  have w4 : tkM τ 182 = (1, 3) := h.1.1.2.2.1.2.2.2.1
  have hc : DoM 55 [.ref 8] τ = some (.inl (some (.int (nQ N))), wrM τ 182 1 (nQ 0)) := by
    refine (g55_0).trans ?_
    simp (disch := omega) only [cn_l, cn_r, Option.toList, List.cons_append, List.nil_append, if_true, if_false, tk_sB, pr_sB, aOk, nQ_nat, nQ_neg, nQ_add, nQ_mul, leF, rd_sB, rd_sB0, wr_sB, wr_sB0, true_and, and_true, or_false, false_or, not_false_eq_true, w1, w3, w4, a4, g55_16]
  have hm := m144 (σ := wrM τ 182 1 (nQ 0)) (d := rw_ τ 186) hM
  rw [sB_rw2 (fun v h1 h2 => by rw [rdf_wr (by omega)]), a1] at hm
  have r0 : ∀ D, rdM (sB 7 (wrM τ 182 1 (nQ 0)) 186 D) 186 = D 0 := fun D => rdf_in (u := 0) (b := 186) (by decide)
  have r1 : ∀ D, rdM (sB 7 (wrM τ 182 1 (nQ 0)) 186 D) 187 = D 1 := fun D => rdf_in (u := 1) (b := 186) (by decide)
  have r2 : ∀ D, rdM (sB 7 (wrM τ 182 1 (nQ 0)) 186 D) 188 = D 2 := fun D => rdf_in (u := 2) (b := 186) (by decide)
  refine ⟨_, _, _, hc, hm, EqI_s _ _, RW_tx h rfl rfl (fun v hv => ?_) (by rw [r0]; rfl) ⟨t, 0, ⟨by show rdM _ 186 5 = _; rw [r0]; rfl, Nat.zero_le _, fun i hi => absurd hi (Nat.not_lt_zero i)⟩, ?_, fun i hi => absurd hi (Nat.not_lt_zero i)⟩⟩
  · by_cases e : v < 182
    · rw [rdf_out (by omega), rdf_wr (by omega)]
    · rcases (show v = 187 ∨ v = 188 by omega) with rfl | rfl
      · rw [r1]; rfl
      · rw [r2]; rfl
  · rw [rdf_out (by omega)]
    exact rd_wr_s _ _ _ _
theorem s54 (h : RW L xs τ) (v : Int32) : StW L xs 199 143 [.int v] τ := by
  obtain ⟨n, hR, hF, hI⟩ := RW_n h
  have hM : ShM τ 186 := h.1.1.2.2.2
  have w1 : tkM τ 8 = (1, 4) := h.1.1.1.1
  have w2 : prM τ 8 0 = 9 := h.1.1.1.2.1
  have w0 : tkM τ 193 = (5, 1) := h.1.1.2.2.1.2.2.2.2.2.2.2.2.2
  have hs : ShS τ 9 := h.1.1.2.1.1
  obtain ⟨t, N, ⟨a1, a2, a3⟩, a4, a5⟩ := id h.2.2.2
  have w3 : prM τ 8 6 = 182 := h.1.1.1.2.2.2.2.2.2.1
  have w4 : tkM τ 182 = (1, 3) := h.1.1.2.2.1.2.2.2.1
  have w5 : prM τ 182 0 = 183 := h.1.1.2.2.1.2.2.2.2.1
  have w6 : tkM τ 183 = (4, 100) := h.1.1.2.2.1.2.2.2.2.2.2.1
  by_cases hx : inP v (nQ 32) (nQ 126)
  · by_cases hN : N < 100
    · obtain ⟨ch, hc1, hc2, rfl⟩ : ∃ ch, 32 ≤ ch ∧ ch ≤ 126 ∧ v = nQ ch := by
        have h1 : ¬ v.toInt < (nQ 32).toInt := fun z => hx.1 (Int32.lt_iff_toInt_lt.mpr z)
        have h2 : ¬ (nQ 126).toInt < v.toInt := fun z => hx.2 (Int32.lt_iff_toInt_lt.mpr z)
        rw [nQ_int (by decide)] at h1 h2
        refine ⟨v.toInt.toNat, by omega, by omega, ?_⟩
        apply Int32.toInt_inj.mp
        rw [nQ_int (by omega)]
        omega
      have hcls : DoM 54 [.ref 8, .int (nQ ch)] τ = some (.inl (some (.int (nQ (N + 1)))), wrM (wrM τ 183 N (nQ ch)) 182 1 (nQ (N + 1))) := by
        have z0 := ch_q ch (by omega)
        have z1 : rdM (wrM τ 183 N (nQ ch)) 182 1 = nQ N := by rw [rdf_wr (by omega), a4]
        have z2 : rdM (wrM (wrM τ 183 N (nQ ch)) 182 1 (nQ (N + 1))) 182 1 = nQ (N + 1) := rd_wr_s _ _ _ _
        refine (g54_0).trans ?_
        simp (disch := omega) only [cn_l, cn_r, Option.toList, List.cons_append, List.nil_append, if_true, if_false, tk_sB, pr_sB, aOk, nQ_nat, nQ_neg, nQ_add, nQ_mul, leF, rd_sB, rd_sB0, wr_sB, wr_sB0, true_and, and_true, or_false, false_or, not_false_eq_true, hx.1, hx.2, tk_wr, pr_wr, w1, w3, w4, w5, w6, a4, nQ_lt, hN, z0, z1, z2, g54_12, g54_61, g54_74]
      have hw := w199_r (σ' := wrM (wrM τ 183 N (nQ ch)) 182 1 (nQ (N + 1))) w1 w0 hcls
      have hm := m143_0 (σ := wrM (wrM (wrM τ 183 N (nQ ch)) 182 1 (nQ (N + 1))) 193 0 (nQ (N + 1))) (d := rw_ τ 186) hM hx a1 hN
      rw [sB_rw2 (fun v h1 h2 => by rw [rdf_wr (by omega), rdf_wr (by omega), rdf_wr (by omega)])] at hm
      have r0 : ∀ D, rdM (sB 7 (wrM (wrM (wrM τ 183 N (nQ ch)) 182 1 (nQ (N + 1))) 193 0 (nQ (N + 1))) 186 D) 186 = D 0 := fun D => rdf_in (u := 0) (b := 186) (by decide)
      have r1 : ∀ D, rdM (sB 7 (wrM (wrM (wrM τ 183 N (nQ ch)) 182 1 (nQ (N + 1))) 193 0 (nQ (N + 1))) 186 D) 187 = D 1 := fun D => rdf_in (u := 1) (b := 186) (by decide)
      have r2 : ∀ D, rdM (sB 7 (wrM (wrM (wrM τ 183 N (nQ ch)) 182 1 (nQ (N + 1))) 193 0 (nQ (N + 1))) 186 D) 188 = D 2 := fun D => rdf_in (u := 2) (b := 186) (by decide)
      have r3 : ∀ D, rdM (sB 7 (wrM (wrM (wrM τ 183 N (nQ ch)) 182 1 (nQ (N + 1))) 193 0 (nQ (N + 1))) 186 D) 189 = D 3 := fun D => rdf_in (u := 3) (b := 186) (by decide)
      refine ⟨_, _, 0, _, hw, hm, by decide, by rw [r0]; rfl, fun _ => ?_, EqI_s _ _, RW_tx h rfl rfl (fun v hv => ?_) (by rw [r0]; rfl) ⟨fun i => if i = N then ch else t i, N + 1, ⟨by show rdM _ 186 5 = _; rw [r0]; rfl, by omega, fun i hi => ?_⟩, ?_, fun i hi => ?_⟩⟩
      · rw [rdf_out (by omega)]
        exact rd_wr_s _ _ _ _
      · by_cases e : v < 182
        · rw [rdf_out (by omega), rdf_wr (by omega), rdf_wr (by omega), rdf_wr (by omega)]
        · rcases (show v = 187 ∨ v = 188 by omega) with rfl | rfl
          · rw [r1]; rfl
          · rw [r2]; rfl
      · show rdM _ 189 i = nQ (if i = N then ch else t i) ∧ 32 ≤ (if i = N then ch else t i) ∧ (if i = N then ch else t i) ≤ 126
        rw [r3, rX_n (by decide), rX_s]
        by_cases e : i = N
        · rw [if_pos e, e, up_s]
          exact ⟨rfl, hc1, hc2⟩
        · rw [if_neg e, up_n e]
          exact a3 i (by omega)
      · rw [rdf_out (by omega), rdf_wr (by omega)]
        exact rd_wr_s _ _ _ _
      · rw [rdf_out (by omega), rdf_wr (by omega), rdf_wr (by omega)]
        show (if 183 = 183 ∧ i = N then nQ ch else rdM τ 183 i) = nQ (if i = N then ch else t i)
        by_cases e : i = N
        · rw [if_pos ⟨rfl, e⟩, if_pos e]
        · rw [if_neg (fun z => e z.2), if_neg e]
          exact a5 i (by omega)
    · have eN : N = 100 := by omega
      rw [eN] at a1 a4
      refine StW_E h (k := 2) (by decide) (by decide) (w199_E3 w1 ?_) (m143_2 hM hx a1)
      refine (g54_0).trans ?_
      simp (disch := omega) only [cn_l, cn_r, Option.toList, List.cons_append, List.nil_append, if_true, if_false, tk_sB, pr_sB, aOk, nQ_nat, nQ_neg, nQ_add, nQ_mul, leF, rd_sB, rd_sB0, wr_sB, wr_sB0, true_and, and_true, or_false, false_or, not_false_eq_true, hx.1, hx.2, w1, w3, w4, a4, nQ_lt, Nat.lt_irrefl, g54_12, g54_61, g54_74]
  · refine StW_E h (k := 1) (by decide) (by decide) (w199_E2 w1 ?_) (m143_1 hM hx)
    refine (g54_0).trans ?_
    by_cases h1 : v < nQ 32
    · rw [if_pos h1]
      exact g54_12
    · have h2 : nQ 126 < v := Classical.byContradiction fun z => hx ⟨h1, z⟩
      rw [if_neg h1, if_pos h2]
      exact g54_12
end Sy
