/-! The administration, on both sides. -/
theorem Rl_lim {d : Nat → Nat → Int32} {f U : Nat → Int32} (hR : RlC d f U) {k : Nat} (hk : k < 18) (s z : Int32) : RlC (rX (rX d 4 (up (d 4) k s)) 5 (up (d 5) k z)) (up (up f (245 + k) s) (263 + k) z) U := by
  obtain ⟨⟨a1, a2, a3⟩, a4, a5, a6⟩ := hR
  refine ⟨⟨?_, fun r hr => ?_, fun u hu => ?_⟩, fun j hj => ?_, fun a ha => ?_, Lg_congr a6 (fun u h1 h2 => by rw [rX_n (by omega), rX_n (by omega)]) (fun i h1 h2 => by rw [up_n (by omega), up_n (by omega)])⟩
  · rw [rX_n (by omega), rX_n (by omega), up_n (by omega), up_n (by omega), a1]
  · rw [rX_n (by omega), rX_n (by omega), up_n (by omega), up_n (by omega), a2 r hr]
  · rw [rX_n (by omega), rX_n (by omega), a3 u hu]
    unfold frF
    rw [up_n (by omega), up_n (by omega)]
  · obtain ⟨b1, b2, b3, b4⟩ := a4 j hj
    rw [rX_n (by omega), rX_n (by omega), rX_n (by omega), rX_s, rX_s, rX_n (by omega), rX_n (by omega)]
    refine ⟨b1, ?_, ?_, ?_⟩
    · by_cases e : j = k
      · rw [e, up_s, up_n (by omega), up_s]
      · rw [up_n e, up_n (by omega), up_n (by omega), b2]
    · by_cases e : j = k
      · rw [e, up_s, up_s]
      · rw [up_n e, up_n (by omega), up_n (by omega), b3]
    · rw [up_n (by omega), up_n (by omega), b4]
  · rw [rX_n (by omega), rX_n (by omega), up_n (by omega), up_n (by omega), a5 a ha]
theorem Rl_gl {d : Nat → Nat → Int32} {f U : Nat → Int32} (hR : RlC d f U) {r : Nat} (hr : r < 2) (v : Int32) : RlC (rX d 1 (up (d 1) r v)) (up f (1 + r) v) U := by
  obtain ⟨⟨a1, a2, a3⟩, a4, a5, a6⟩ := hR
  refine ⟨⟨?_, fun r' hr' => ?_, fun u hu => ?_⟩, fun j hj => ?_, fun a ha => ?_, Lg_congr a6 (fun u h1 h2 => rX_n (by omega)) (fun i h1 h2 => up_n (by omega))⟩
  · rw [rX_n (by omega), up_n (by omega), a1]
  · rw [rX_s]
    by_cases e : r' = r
    · rw [e, up_s, up_s]
    · rw [up_n e, up_n (by omega), a2 r' hr']
  · rw [rX_n (by omega), a3 u hu]
    unfold frF
    rw [up_n (by omega)]
  · rw [rX_n (by omega), rX_n (by omega), rX_n (by omega), rX_n (by omega), up_n (by omega), up_n (by omega), up_n (by omega)]
    exact a4 j hj
  · rw [rX_n (by omega), up_n (by omega), a5 a ha]
theorem IF_sl {f : Nat → Int32} {n : Nat} (h60 : n ≤ 60) (h : InvF f n) {a r s z : Nat} (ha : a < 9) (hr : r < 2) (hs : s ≤ 100000) (hz : z ≤ 100000) : InvF (slF f n a r (nQ s) (nQ z)) n := by
  unfold slF
  obtain ⟨⟨b1, b2, b3, b4⟩, hB⟩ := h
  have hf : ∀ i, i < 245 → up (up f (245 + 2 * a + r) (nQ s)) (263 + 2 * a + r) (nQ z) i = f i := fun i hi => by rw [up_n (by omega), up_n (by omega)]
  have hA : InvA (up (up f (245 + 2 * a + r) (nQ s)) (263 + 2 * a + r) (nQ z)) n := by
    refine ⟨fun i hi => ?_, fun i j hi hj e => ?_, by rw [hf 3 (by decide)]; exact b3, fun k hk => ?_⟩
    · rw [hf _ (by omega), hf _ (by omega), hf _ (by omega)]
      exact b1 i hi
    · rw [hf _ (by omega), hf _ (by omega)] at e
      exact b2 i j hi hj e
    · obtain ⟨s', z', c1, c2, c3, c4⟩ := b4 k hk
      by_cases e : k = 2 * a + r
      · refine ⟨s, z, hs, hz, ?_, ?_⟩
        · rw [up_n (by omega), show 245 + k = 245 + 2 * a + r by omega, up_s]
        · rw [show 263 + k = 263 + 2 * a + r by omega, up_s]
      · refine ⟨s', z', c1, c2, ?_, ?_⟩
        · rw [up_n (by omega), up_n (by omega), c3]
        · rw [up_n (by omega), up_n (by omega), c4]
  have ek : (2 * a + r) / 2 = a := by omega
  have er : 2 * a + r - (2 * a + r) / 2 * 2 = r := by omega
  have hq := fun i hi => q_rv (up (up f (245 + 2 * a + r) (nQ s)) (263 + 2 * a + r) (nQ z)) n a r (by omega) (i := i) (Or.inl hi)
  refine ⟨IA_cg h60 hA (fun i _ hi => hq i hi), fun j hj => ?_⟩
  have := IB_rv (f := up (up f (245 + 2 * a + r) (nQ s)) (263 + 2 * a + r) (nQ z)) (k := 2 * a + r) h60 (by omega) j hj (fun e hst => by
    rw [up_n (by omega), up_n (by omega)] at hst
    rw [up_n (by omega), up_n (by omega), us_c2 h60 _ _ (fun i _ hi => hf i hi)]
    exact hB j hj hst)
  rw [er, ek] at this
  exact this
section Su
variable {L : Nat} {xs : Nat → Int32} {τ : Mem}
theorem s49 (h : RW L xs τ) (v w x y : Int32) : StW L xs 194 138 [.int v, .int w, .int x, .int y] τ := by
  obtain ⟨n, hR, hF, hI⟩ := RW_n h
  have hM : ShM τ 186 := h.1.1.2.2.2
  have w1 : tkM τ 8 = (1, 4) := h.1.1.1.1
  have w2 : prM τ 8 0 = 9 := h.1.1.1.2.1
  have w0 : tkM τ 193 = (5, 1) := h.1.1.2.2.1.2.2.2.2.2.2.2.2.2
  have hs : ShS τ 9 := h.1.1.2.1.1
  by_cases hx : inP v (nQ 0) (nQ 8) ∧ inP w (nQ 0) (nQ 1)
  · by_cases hy : arP x y
    · obtain ⟨a, ha, rfl⟩ := in_ex hx.1 (by decide)
      obtain ⟨r, hr, rfl⟩ := in_ex hx.2 (by decide)
      obtain ⟨s, hs5, rfl⟩ := in_ex hy.1 (by decide)
      obtain ⟨z, hz5, rfl⟩ := in_ex hy.2.1 (by decide)
      obtain ⟨τ1, c, hK⟩ := Kp_ex h
      obtain ⟨n', kR, kF, kI, kF0, kI0, krow⟩ := Kp_n h hK
      have en : n' = n := by
        have e1 := kF0.2.1
        rw [hF.2.1, nQ_eq (by have := hF.2.2.1; omega) (by have := kF0.2.2.1; omega)] at e1
        exact e1.symm
      subst en
      have v1 : tkM τ1 8 = (1, 4) := hK.2.1.1.1.1
      have v2 : prM τ1 8 0 = 9 := hK.2.1.1.1.2.1
      have v0 : tkM τ1 193 = (5, 1) := hK.2.1.1.2.2.1.2.2.2.2.2.2.2.2.2
      have hs1 : ShS τ1 9 := hK.2.1.1.2.1.1
      have hM1 : ShM τ1 186 := hK.2.1.1.2.2.2
      have k1 := Kp_w (τ' := τ) hK
      have hk : 2 * a + r < 18 := by omega
      have ek : (2 * a + r) / 2 = a := by omega
      have er : 2 * a + r - (2 * a + r) / 2 * 2 = r := by omega
      have hRl := Rl_lim kR hk (nQ s) (nQ z)
      have hF2 : ∀ i, 4 ≤ i → i < 245 → up (up (kpF (rdM τ 187) c) (245 + (2 * a + r)) (nQ s)) (263 + (2 * a + r)) (nQ z) i = kpF (rdM τ 187) c i := fun i h1 h2 => by rw [up_n (by omega), up_n (by omega)]
      obtain ⟨d', y1, y2, y3⟩ := c28 hs1 hRl hk
      have hU : usF (kpF (rdM τ 187) c) (nQ ((2 * a + r) / 2)) (2 * a + r - (2 * a + r) / 2 * 2) n' = usF (up (up (kpF (rdM τ 187) c) (245 + (2 * a + r)) (nQ s)) (263 + (2 * a + r)) (nQ z)) (nQ ((2 * a + r) / 2)) (2 * a + r - (2 * a + r) / 2 * 2) n' := (us_c2 hF.2.2.1 _ _ (fun i h1 h2 => hF2 i (by omega) h2)).symm
      rw [rv_k _ _ hU, ek, show 2 * a + r - a * 2 = r by omega] at y2
      have esl : rvF (up (up (kpF (rdM τ 187) c) (245 + (2 * a + r)) (nQ s)) (263 + (2 * a + r)) (nQ z)) n' a r = slF (kpF (rdM τ 187) c) n' a r (nQ s) (nQ z) := by
        unfold slF
        rw [Nat.add_assoc, Nat.add_assoc]
      rw [esl] at y2
      have hlo : ∀ i, 4 ≤ i → i < 245 → slF (kpF (rdM τ 187) c) n' a r (nQ s) (nQ z) i = kpF (rdM τ 187) c i := fun i h1 h2 => by
        unfold slF
        rw [q_rv _ _ _ _ hk (Or.inl (by omega)), up_n (by omega), up_n (by omega)]
      have hUa : ∀ k, k < 18 → usF (slF (kpF (rdM τ 187) c) n' a r (nQ s) (nQ z)) (nQ (k / 2)) (k - k / 2 * 2) n' = usF (kpF (rdM τ 187) c) (nQ (k / 2)) (k - k / 2 * 2) n' := fun k _ => us_c2 hF.2.2.1 _ _ (fun i h1 h2 => hlo i (by omega) h2)
      have hval : d' 3 (2 * a + r) = usF (slF (kpF (rdM τ 187) c) n' a r (nQ s) (nQ z)) (nQ a) r n' := by
        refine (y2.2.1 _ hk).1.trans ?_
        dsimp only
        rw [← hUa _ hk, ek, show 2 * a + r - a * 2 = r by omega]
      have hF3 : FlR d' (slF (kpF (rdM τ 187) c) n' a r (nQ s) (nQ z)) n' := Fl_cg kF (fun u h1 h2 => by rw [y3 u h1 h2, rX_n (by omega), rX_n (by omega)]) hlo
      have hm := m138_0 (σ := wrM (sB 17 τ1 9 d') 193 0 (usF (slF (kpF (rdM τ 187) c) n' a r (nQ s) (nQ z)) (nQ a) r n')) (d := rw_ τ 186) hM1 hF.2.1 hF.2.2.1 hK.2.2.1.1 hK.2.2.1.2 (a := a) (r := r) (by omega) (by omega) hy
      refine StW_K hK (w194_r w1 (show tkM (sB 17 τ1 9 d') 193 = (5, 1) from v0) ?_) hm rfl rfl rfl rfl rfl (by intro i hi; rw [rX_s]; show slF (kpF (rdM τ 187) c) n' a r (nQ s) (nQ z) i = _; unfold slF; rw [rv_hi _ _ _ _ hk hi, up_n (by omega), up_n (by omega)]) (by rw [rX_s]; exact ⟨n', Rl_U y2 hUa, hF3, IF_sl hF.2.2.1 kI (by omega) (by omega) hs5 hz5⟩)
      refine (g49_0).trans ?_
      rw [← hval]
      simp (disch := omega) only [cn_l, cn_r, Option.toList, List.cons_append, List.nil_append, if_true, if_false, tk_sB, pr_sB, aOk, nQ_nat, nQ_neg, nQ_add, nQ_mul, leF, rd_sB, rd_sB0, wr_sB, wr_sB0, true_and, and_true, or_false, false_or, not_false_eq_true, c91, c95, eq_true hx, eq_true hy, w1, w2, k1, v1, v2, hs1.2.1.1, hs1.2.1.2.1, hs1.2.1.2.2, hs1.2.2.1.1, hs1.2.2.1.2.1, hs1.2.2.1.2.2.1, hs1.2.2.1.2.2.2.1, hs1.2.2.1.2.2.2.2.1, hs1.2.2.1.2.2.2.2.2.1, hs1.2.2.1.2.2.2.2.2.2.1, hs1.2.2.1.2.2.2.2.2.2.2.1, hs1.2.2.1.2.2.2.2.2.2.2.2, hs1.2.2.2.1.1, hs1.2.2.2.1.2.1, hs1.2.2.2.1.2.2.1, hs1.2.2.2.1.2.2.2, hs1.2.2.2.2.1.1, hs1.2.2.2.2.1.2.1, hs1.2.2.2.2.1.2.2, hs1.2.2.2.2.2.1.1, hs1.2.2.2.2.2.1.2.1, hs1.2.2.2.2.2.1.2.2.1, hs1.2.2.2.2.2.1.2.2.2.1, hs1.2.2.2.2.2.1.2.2.2.2.1, hs1.2.2.2.2.2.1.2.2.2.2.2.1, hs1.2.2.2.2.2.1.2.2.2.2.2.2, hs1.2.2.2.2.2.2.1.1, hs1.2.2.2.2.2.2.1.2.1, hs1.2.2.2.2.2.2.1.2.2.1, hs1.2.2.2.2.2.2.1.2.2.2, hs1.2.2.2.2.2.2.2.1, hs1.2.2.2.2.2.2.2.2.1, hs1.2.2.2.2.2.2.2.2.2, le8 hs1.1, rX_n, y1, g49_5, g49_13, g49_17, g49_28, g49_40, g49_49]
    · refine StW_E h (k := 2) (by decide) (by decide) (w194_E2 w1 ?_) (m138_2 hM hx hy)
      refine (g49_0).trans ?_
      simp (disch := omega) only [cn_l, cn_r, Option.toList, List.cons_append, List.nil_append, if_true, if_false, tk_sB, pr_sB, c91, c95, eq_true hx, eq_false hy, g49_5, g49_13, g49_17, g49_28, g49_40, g49_49]
  · refine StW_E h (k := 1) (by decide) (by decide) (w194_E1 w1 ?_) (m138_1 hM hx)
    refine (g49_0).trans ?_
    simp (disch := omega) only [cn_l, cn_r, Option.toList, List.cons_append, List.nil_append, if_true, if_false, tk_sB, pr_sB, c91, eq_false hx, g49_5, g49_13, g49_17, g49_28, g49_40, g49_49]
theorem s50 (h : RW L xs τ) (v w : Int32) : StW L xs 195 139 [.int v, .int w] τ := by
  obtain ⟨n, hR, hF, hI⟩ := RW_n h
  have hM : ShM τ 186 := h.1.1.2.2.2
  have w1 : tkM τ 8 = (1, 4) := h.1.1.1.1
  have w2 : prM τ 8 0 = 9 := h.1.1.1.2.1
  have w0 : tkM τ 193 = (5, 1) := h.1.1.2.2.1.2.2.2.2.2.2.2.2.2
  have hs : ShS τ 9 := h.1.1.2.1.1
  by_cases hx : inP v (nQ 0) (nQ 1)
  · by_cases hy : inP w (nQ 1) (nQ 60)
    · obtain ⟨r, hr, rfl⟩ := in_ex hx (by decide)
      obtain ⟨τ1, c, hK⟩ := Kp_ex h
      obtain ⟨n', kR, kF, kI, kF0, kI0, krow⟩ := Kp_n h hK
      have en : n' = n := by
        have e1 := kF0.2.1
        rw [hF.2.1, nQ_eq (by have := hF.2.2.1; omega) (by have := kF0.2.2.1; omega)] at e1
        exact e1.symm
      subst en
      have v1 : tkM τ1 8 = (1, 4) := hK.2.1.1.1.1
      have v2 : prM τ1 8 0 = 9 := hK.2.1.1.1.2.1
      have v0 : tkM τ1 193 = (5, 1) := hK.2.1.1.2.2.1.2.2.2.2.2.2.2.2.2
      have hs1 : ShS τ1 9 := hK.2.1.1.2.1.1
      have hM1 : ShM τ1 186 := hK.2.1.1.2.2.2
      have k1 := Kp_w (τ' := τ) hK
      have e1 : rw_ τ1 9 1 r = rdM τ 187 (1 + r) := (kR.1.2.1 r (by omega)).trans (kp_lo _ c (by omega))
      have hm := m139_0 (σ := wrM (sB 17 τ1 9 (rX (rw_ τ1 9) 1 (up (rw_ τ1 9 1) r w))) 193 0 (rdM τ 187 (1 + r))) (d := rw_ τ 186) hM1 hK.2.2.1.1 hK.2.2.1.2 (r := r) (by omega) hy
      refine StW_K hK (w195_r w1 (show tkM (sB 17 τ1 9 (rX (rw_ τ1 9) 1 (up (rw_ τ1 9 1) r w))) 193 = (5, 1) from v0) ?_) hm rfl rfl rfl rfl rfl (by intro i hi; rw [rX_s, up_n (by omega)]; rfl) (by
        rw [rX_s]
        exact ⟨n', Rl_U (Rl_gl kR (by omega) w) (fun k _ => us_c2 hF.2.2.1 _ _ (fun i h1 h2 => up_n (by omega))), Fl_cg kF (fun u h1 h2 => rX_n (by omega)) (fun i h1 h2 => up_n (by omega)), IA_cg hF.2.2.1 kI.1 (fun i h1 h2 => up_n (by omega)), IB_cg hF.2.2.1 kI.2 (fun i h1 h2 => up_n (by omega))⟩)
      refine (g50_0).trans ?_
      simp (disch := omega) only [cn_l, cn_r, Option.toList, List.cons_append, List.nil_append, if_true, if_false, tk_sB, pr_sB, aOk, nQ_nat, nQ_neg, nQ_add, nQ_mul, leF, rd_sB, rd_sB0, wr_sB, wr_sB0, true_and, and_true, or_false, false_or, not_false_eq_true, c90, eq_true hx, hy.1, hy.2, w1, w2, k1, v1, v2, hs1.2.1.1, hs1.2.1.2.1, hs1.2.1.2.2, hs1.2.2.1.1, hs1.2.2.1.2.1, hs1.2.2.1.2.2.1, hs1.2.2.1.2.2.2.1, hs1.2.2.1.2.2.2.2.1, hs1.2.2.1.2.2.2.2.2.1, hs1.2.2.1.2.2.2.2.2.2.1, hs1.2.2.1.2.2.2.2.2.2.2.1, hs1.2.2.1.2.2.2.2.2.2.2.2, hs1.2.2.2.1.1, hs1.2.2.2.1.2.1, hs1.2.2.2.1.2.2.1, hs1.2.2.2.1.2.2.2, hs1.2.2.2.2.1.1, hs1.2.2.2.2.1.2.1, hs1.2.2.2.2.1.2.2, hs1.2.2.2.2.2.1.1, hs1.2.2.2.2.2.1.2.1, hs1.2.2.2.2.2.1.2.2.1, hs1.2.2.2.2.2.1.2.2.2.1, hs1.2.2.2.2.2.1.2.2.2.2.1, hs1.2.2.2.2.2.1.2.2.2.2.2.1, hs1.2.2.2.2.2.1.2.2.2.2.2.2, hs1.2.2.2.2.2.2.1.1, hs1.2.2.2.2.2.2.1.2.1, hs1.2.2.2.2.2.2.1.2.2.1, hs1.2.2.2.2.2.2.1.2.2.2, hs1.2.2.2.2.2.2.2.1, hs1.2.2.2.2.2.2.2.2.1, hs1.2.2.2.2.2.2.2.2.2, le8 hs1.1, e1, g50_4, g50_15, g50_29, g50_49]
    · refine StW_E h (k := 2) (by decide) (by decide) (w195_E2 w1 ?_) (m139_2 hM hx hy)
      refine (g50_0).trans ?_
      by_cases h1 : w < nQ 1
      · simp (disch := omega) only [cn_l, cn_r, Option.toList, List.cons_append, List.nil_append, if_true, if_false, tk_sB, pr_sB, c90, eq_true hx, h1, g50_4, g50_15, g50_29, g50_49]
      · have h2 : nQ 60 < w := Classical.byContradiction fun z => hy ⟨h1, z⟩
        simp (disch := omega) only [cn_l, cn_r, Option.toList, List.cons_append, List.nil_append, if_true, if_false, tk_sB, pr_sB, c90, eq_true hx, h1, h2, g50_4, g50_15, g50_29, g50_49]
  · refine StW_E h (k := 1) (by decide) (by decide) (w195_E1 w1 ?_) (m139_1 hM hx)
    refine (g50_0).trans ?_
    simp (disch := omega) only [cn_l, cn_r, Option.toList, List.cons_append, List.nil_append, if_true, if_false, tk_sB, pr_sB, c90, eq_false hx, g50_4, g50_15, g50_29, g50_49]
theorem s51 (h : RW L xs τ) (v w : Int32) : StW L xs 196 140 [.int v, .int w] τ := by
  obtain ⟨n, hR, hF, hI⟩ := RW_n h
  have hM : ShM τ 186 := h.1.1.2.2.2
  have w1 : tkM τ 8 = (1, 4) := h.1.1.1.1
  have w2 : prM τ 8 0 = 9 := h.1.1.1.2.1
  have w0 : tkM τ 193 = (5, 1) := h.1.1.2.2.1.2.2.2.2.2.2.2.2.2
  have hs : ShS τ 9 := h.1.1.2.1.1
  by_cases hx : inP v (nQ 0) (nQ 8) ∧ inP w (nQ 0) (nQ 1)
  · obtain ⟨a, ha, rfl⟩ := in_ex hx.1 (by decide)
    obtain ⟨r, hr, rfl⟩ := in_ex hx.2 (by decide)
    have hk : 2 * a + r < 18 := by omega
    have r29 := c29 (d := rw_ τ 9) hs hR hk
    rw [sB_rw] at r29
    have ea : 281 + (2 * a + r) = 281 + 2 * a + r := by omega
    by_cases hst : rdM τ 187 (281 + 2 * a + r) = -1
    · rw [ea, if_pos hst] at r29
      refine StW_E h (k := 2) (by decide) (by decide) (w196_E3 w1 ?_) (m140_2 hM (by omega) (by omega) hst)
      refine (g51_0).trans ?_
      simp (disch := omega) only [cn_l, cn_r, Option.toList, List.cons_append, List.nil_append, if_true, if_false, tk_sB, pr_sB, c91, eq_true hx, nQ_mul, nQ_add, w1, w2, hs.2.1.1, hs.2.1.2.1, hs.2.1.2.2, hs.2.2.1.1, hs.2.2.1.2.1, hs.2.2.1.2.2.1, hs.2.2.1.2.2.2.1, hs.2.2.1.2.2.2.2.1, hs.2.2.1.2.2.2.2.2.1, hs.2.2.1.2.2.2.2.2.2.1, hs.2.2.1.2.2.2.2.2.2.2.1, hs.2.2.1.2.2.2.2.2.2.2.2, hs.2.2.2.1.1, hs.2.2.2.1.2.1, hs.2.2.2.1.2.2.1, hs.2.2.2.1.2.2.2, hs.2.2.2.2.1.1, hs.2.2.2.2.1.2.1, hs.2.2.2.2.1.2.2, hs.2.2.2.2.2.1.1, hs.2.2.2.2.2.1.2.1, hs.2.2.2.2.2.1.2.2.1, hs.2.2.2.2.2.1.2.2.2.1, hs.2.2.2.2.2.1.2.2.2.2.1, hs.2.2.2.2.2.1.2.2.2.2.2.1, hs.2.2.2.2.2.1.2.2.2.2.2.2, hs.2.2.2.2.2.2.1.1, hs.2.2.2.2.2.2.1.2.1, hs.2.2.2.2.2.2.1.2.2.1, hs.2.2.2.2.2.2.1.2.2.2, hs.2.2.2.2.2.2.2.1, hs.2.2.2.2.2.2.2.2.1, hs.2.2.2.2.2.2.2.2.2, le8 hs.1, r29, g51_5, g51_14, g51_31, g51_58]
    · rw [ea, if_neg hst] at r29
      obtain ⟨τ1, c, hK⟩ := Kp_ex h
      obtain ⟨n', kR, kF, kI, kF0, kI0, krow⟩ := Kp_n h hK
      have en : n' = n := by
        have e1 := kF0.2.1
        rw [hF.2.1, nQ_eq (by have := hF.2.2.1; omega) (by have := kF0.2.2.1; omega)] at e1
        exact e1.symm
      subst en
      have v1 : tkM τ1 8 = (1, 4) := hK.2.1.1.1.1
      have v2 : prM τ1 8 0 = 9 := hK.2.1.1.1.2.1
      have v0 : tkM τ1 193 = (5, 1) := hK.2.1.1.2.2.1.2.2.2.2.2.2.2.2.2
      have hs1 : ShS τ1 9 := hK.2.1.1.2.1.1
      have hM1 : ShM τ1 186 := hK.2.1.1.2.2.2
      have k1 := Kp_w (τ' := τ) hK
      have e1 : rw_ τ1 9 6 (2 * a + r) = rdM τ 187 (281 + 2 * a + r) := by
        rw [(kR.2.1 _ hk).2.2.2, kp_lo _ c (by omega), ea]
      have e0 : rw_ τ1 9 0 0 = rdM τ 187 0 := kR.1.1.trans (kp_lo _ c (by decide))
      have hm := m140_0 (σ := wrM (sB 17 τ1 9 (rX (rw_ τ1 9) 6 (up (rw_ τ1 9 6) (2 * a + r) (rdM τ 187 0)))) 193 0 (rdM τ 187 (281 + 2 * a + r))) (d := rw_ τ 186) hM1 hK.2.2.1.1 hK.2.2.1.2 (a := a) (r := r) (by omega) (by omega) hst
      refine StW_K hK (w196_r w1 (show tkM (sB 17 τ1 9 (rX (rw_ τ1 9) 6 (up (rw_ τ1 9 6) (2 * a + r) (rdM τ 187 0)))) 193 = (5, 1) from v0) ?_) hm rfl rfl rfl rfl rfl (by intro i hi; rw [rX_s, up_n (by omega)]; rfl) (by
        rw [rX_s, ← ea]
        refine ⟨n', Rl_U (Rl_st kR hk (rdM τ 187 0)) (fun k _ => us_c2 hF.2.2.1 _ _ (fun i h1 h2 => up_n (by omega))), Fl_cg kF (fun u h1 h2 => rX_n (by omega)) (fun i h1 h2 => up_n (by omega)), IA_cg hF.2.2.1 kI.1 (fun i h1 h2 => up_n (by omega)), fun k hk' hk2 => ?_⟩
        rw [up_n (by omega), us_c2 (f := kpF (rw_ τ 186 1) c) hF.2.2.1 _ _ (fun i h1 h2 => up_n (by omega))]
        refine kI.2 k hk' ?_
        by_cases e : k = 2 * a + r
        · rw [e, ea, kp_lo _ c (by omega)]
          exact hst
        · rw [up_n (by omega)] at hk2
          exact hk2)
      refine (g51_0).trans ?_
      simp (disch := omega) only [cn_l, cn_r, Option.toList, List.cons_append, List.nil_append, if_true, if_false, tk_sB, pr_sB, aOk, nQ_nat, nQ_neg, nQ_add, nQ_mul, leF, rd_sB, rd_sB0, wr_sB, wr_sB0, true_and, and_true, or_false, false_or, not_false_eq_true, c91, eq_true hx, q10, w1, w2, hs.2.1.1, hs.2.1.2.1, hs.2.1.2.2, hs.2.2.1.1, hs.2.2.1.2.1, hs.2.2.1.2.2.1, hs.2.2.1.2.2.2.1, hs.2.2.1.2.2.2.2.1, hs.2.2.1.2.2.2.2.2.1, hs.2.2.1.2.2.2.2.2.2.1, hs.2.2.1.2.2.2.2.2.2.2.1, hs.2.2.1.2.2.2.2.2.2.2.2, hs.2.2.2.1.1, hs.2.2.2.1.2.1, hs.2.2.2.1.2.2.1, hs.2.2.2.1.2.2.2, hs.2.2.2.2.1.1, hs.2.2.2.2.1.2.1, hs.2.2.2.2.1.2.2, hs.2.2.2.2.2.1.1, hs.2.2.2.2.2.1.2.1, hs.2.2.2.2.2.1.2.2.1, hs.2.2.2.2.2.1.2.2.2.1, hs.2.2.2.2.2.1.2.2.2.2.1, hs.2.2.2.2.2.1.2.2.2.2.2.1, hs.2.2.2.2.2.1.2.2.2.2.2.2, hs.2.2.2.2.2.2.1.1, hs.2.2.2.2.2.2.1.2.1, hs.2.2.2.2.2.2.1.2.2.1, hs.2.2.2.2.2.2.1.2.2.2, hs.2.2.2.2.2.2.2.1, hs.2.2.2.2.2.2.2.2.1, hs.2.2.2.2.2.2.2.2.2, le8 hs.1, r29, k1, v1, v2, hs1.2.1.1, hs1.2.1.2.1, hs1.2.1.2.2, hs1.2.2.1.1, hs1.2.2.1.2.1, hs1.2.2.1.2.2.1, hs1.2.2.1.2.2.2.1, hs1.2.2.1.2.2.2.2.1, hs1.2.2.1.2.2.2.2.2.1, hs1.2.2.1.2.2.2.2.2.2.1, hs1.2.2.1.2.2.2.2.2.2.2.1, hs1.2.2.1.2.2.2.2.2.2.2.2, hs1.2.2.2.1.1, hs1.2.2.2.1.2.1, hs1.2.2.2.1.2.2.1, hs1.2.2.2.1.2.2.2, hs1.2.2.2.2.1.1, hs1.2.2.2.2.1.2.1, hs1.2.2.2.2.1.2.2, hs1.2.2.2.2.2.1.1, hs1.2.2.2.2.2.1.2.1, hs1.2.2.2.2.2.1.2.2.1, hs1.2.2.2.2.2.1.2.2.2.1, hs1.2.2.2.2.2.1.2.2.2.2.1, hs1.2.2.2.2.2.1.2.2.2.2.2.1, hs1.2.2.2.2.2.1.2.2.2.2.2.2, hs1.2.2.2.2.2.2.1.1, hs1.2.2.2.2.2.2.1.2.1, hs1.2.2.2.2.2.2.1.2.2.1, hs1.2.2.2.2.2.2.1.2.2.2, hs1.2.2.2.2.2.2.2.1, hs1.2.2.2.2.2.2.2.2.1, hs1.2.2.2.2.2.2.2.2.2, le8 hs1.1, e1, e0, g51_5, g51_14, g51_31, g51_58]
  · refine StW_E h (k := 1) (by decide) (by decide) (w196_E1 w1 ?_) (m140_1 hM hx)
    refine (g51_0).trans ?_
    simp (disch := omega) only [cn_l, cn_r, Option.toList, List.cons_append, List.nil_append, if_true, if_false, tk_sB, pr_sB, c91, eq_false hx, g51_5, g51_14, g51_31, g51_58]
theorem s53 (h : RW L xs τ) (v : Int32) : StW L xs 198 142 [.int v] τ := by
  obtain ⟨n, hR, hF, hI⟩ := RW_n h
  have hM : ShM τ 186 := h.1.1.2.2.2
  have w1 : tkM τ 8 = (1, 4) := h.1.1.1.1
  have w2 : prM τ 8 0 = 9 := h.1.1.1.2.1
  have w0 : tkM τ 193 = (5, 1) := h.1.1.2.2.1.2.2.2.2.2.2.2.2.2
  have hs : ShS τ 9 := h.1.1.2.1.1
  by_cases hx : inP v (nQ 1) (nQ 100)
  · have r32 := c32 (d := rw_ τ 9) hs hR v
    rw [sB_rw] at r32
    by_cases hy : nQ 10000 < rdM τ 187 0 + v
    · rw [if_pos hy] at r32
      refine StW_E h (k := 2) (by decide) (by decide) (w198_E3 w1 ?_) (m142_2 hM hx hy)
      refine (g53_0).trans ?_
      simp (disch := omega) only [cn_l, cn_r, Option.toList, List.cons_append, List.nil_append, if_true, if_false, tk_sB, pr_sB, hx.1, hx.2, w1, w2, hs.2.1.1, hs.2.1.2.1, hs.2.1.2.2, hs.2.2.1.1, hs.2.2.1.2.1, hs.2.2.1.2.2.1, hs.2.2.1.2.2.2.1, hs.2.2.1.2.2.2.2.1, hs.2.2.1.2.2.2.2.2.1, hs.2.2.1.2.2.2.2.2.2.1, hs.2.2.1.2.2.2.2.2.2.2.1, hs.2.2.1.2.2.2.2.2.2.2.2, hs.2.2.2.1.1, hs.2.2.2.1.2.1, hs.2.2.2.1.2.2.1, hs.2.2.2.1.2.2.2, hs.2.2.2.2.1.1, hs.2.2.2.2.1.2.1, hs.2.2.2.2.1.2.2, hs.2.2.2.2.2.1.1, hs.2.2.2.2.2.1.2.1, hs.2.2.2.2.2.1.2.2.1, hs.2.2.2.2.2.1.2.2.2.1, hs.2.2.2.2.2.1.2.2.2.2.1, hs.2.2.2.2.2.1.2.2.2.2.2.1, hs.2.2.2.2.2.1.2.2.2.2.2.2, hs.2.2.2.2.2.2.1.1, hs.2.2.2.2.2.2.1.2.1, hs.2.2.2.2.2.2.1.2.2.1, hs.2.2.2.2.2.2.1.2.2.2, hs.2.2.2.2.2.2.2.1, hs.2.2.2.2.2.2.2.2.1, hs.2.2.2.2.2.2.2.2.2, le8 hs.1, r32, g53_11, g53_29, g53_46, g53_54]
    · rw [if_neg hy] at r32
      obtain ⟨z, hz1, hz2, rfl⟩ : ∃ z, 1 ≤ z ∧ z ≤ 100 ∧ v = nQ z := by
        have h1 : ¬ v.toInt < (nQ 1).toInt := fun z => hx.1 (Int32.lt_iff_toInt_lt.mpr z)
        have h2 : ¬ (nQ 100).toInt < v.toInt := fun z => hx.2 (Int32.lt_iff_toInt_lt.mpr z)
        rw [nQ_int (by decide)] at h1 h2
        refine ⟨v.toInt.toNat, by omega, by omega, ?_⟩
        apply Int32.toInt_inj.mp
        rw [nQ_int (by omega)]
        omega
      obtain ⟨τ1, c, hK⟩ := Kp_ex h
      obtain ⟨n', kR, kF, kI, kF0, kI0, krow⟩ := Kp_n h hK
      have en : n' = n := by
        have e1 := kF0.2.1
        rw [hF.2.1, nQ_eq (by have := hF.2.2.1; omega) (by have := kF0.2.2.1; omega)] at e1
        exact e1.symm
      subst en
      have v1 : tkM τ1 8 = (1, 4) := hK.2.1.1.1.1
      have v2 : prM τ1 8 0 = 9 := hK.2.1.1.1.2.1
      have v0 : tkM τ1 193 = (5, 1) := hK.2.1.1.2.2.1.2.2.2.2.2.2.2.2.2
      have hs1 : ShS τ1 9 := hK.2.1.1.2.1.1
      have hM1 : ShM τ1 186 := hK.2.1.1.2.2.2
      have k1 := Kp_w (τ' := τ) hK
      obtain ⟨d', y1, y2, y3⟩ := c33 hs1 kR hz2
      have hm := m142_0 (σ := wrM (sB 17 τ1 9 d') 193 0 (nQ (dyC (kpF (rdM τ 187) c) z))) (d := rw_ τ 186) hM1 hK.2.2.1.1 hK.2.2.1.2 hz1 hz2 hy
      refine StW_K hK (w198_r w1 (show tkM (sB 17 τ1 9 d') 193 = (5, 1) from v0) ?_) hm rfl rfl rfl rfl rfl (by intro i hi; rw [rX_s]; exact dy_hi _ hi z) (by
        rw [rX_s]
        exact ⟨n', Rl_U y2 (fun k _ => us_c2 hF.2.2.1 _ _ (fun i h1 h2 => dy_lo _ (by omega) (by omega) z)), Fl_cg kF y3 (fun i h1 h2 => dy_lo _ (by omega) (by omega) z), IA_cg hF.2.2.1 kI.1 (fun i h1 h2 => dy_lo _ (by omega) (by omega) z), IB_cg hF.2.2.1 kI.2 (fun i h1 h2 => dy_lo _ (by omega) (by omega) z)⟩)
      refine (g53_0).trans ?_
      simp (disch := omega) only [cn_l, cn_r, Option.toList, List.cons_append, List.nil_append, if_true, if_false, tk_sB, pr_sB, hx.1, hx.2, q10, w1, w2, hs.2.1.1, hs.2.1.2.1, hs.2.1.2.2, hs.2.2.1.1, hs.2.2.1.2.1, hs.2.2.1.2.2.1, hs.2.2.1.2.2.2.1, hs.2.2.1.2.2.2.2.1, hs.2.2.1.2.2.2.2.2.1, hs.2.2.1.2.2.2.2.2.2.1, hs.2.2.1.2.2.2.2.2.2.2.1, hs.2.2.1.2.2.2.2.2.2.2.2, hs.2.2.2.1.1, hs.2.2.2.1.2.1, hs.2.2.2.1.2.2.1, hs.2.2.2.1.2.2.2, hs.2.2.2.2.1.1, hs.2.2.2.2.1.2.1, hs.2.2.2.2.1.2.2, hs.2.2.2.2.2.1.1, hs.2.2.2.2.2.1.2.1, hs.2.2.2.2.2.1.2.2.1, hs.2.2.2.2.2.1.2.2.2.1, hs.2.2.2.2.2.1.2.2.2.2.1, hs.2.2.2.2.2.1.2.2.2.2.2.1, hs.2.2.2.2.2.1.2.2.2.2.2.2, hs.2.2.2.2.2.2.1.1, hs.2.2.2.2.2.2.1.2.1, hs.2.2.2.2.2.2.1.2.2.1, hs.2.2.2.2.2.2.1.2.2.2, hs.2.2.2.2.2.2.2.1, hs.2.2.2.2.2.2.2.2.1, hs.2.2.2.2.2.2.2.2.2, le8 hs.1, r32, k1, v1, v2, hs1.2.1.1, y1, g53_11, g53_29, g53_46, g53_54]
  · refine StW_E h (k := 1) (by decide) (by decide) (w198_E2 w1 ?_) (m142_1 hM hx)
    refine (g53_0).trans ?_
    by_cases h1 : v < nQ 1
    · simp (disch := omega) only [cn_l, cn_r, Option.toList, List.cons_append, List.nil_append, if_true, if_false, tk_sB, pr_sB, h1, g53_11, g53_29, g53_46, g53_54]
    · have h2 : nQ 100 < v := Classical.byContradiction fun z => hx ⟨h1, z⟩
      simp (disch := omega) only [cn_l, cn_r, Option.toList, List.cons_append, List.nil_append, if_true, if_false, tk_sB, pr_sB, h1, h2, g53_11, g53_29, g53_46, g53_54]
end Su
