/-! The face's operations on files, on both sides. -/
theorem kp5 (F : Nat → Int32) (c : Nat) {n j x : Nat} (h60 : n ≤ 60) (hj : j < n) (hx : x < 4) : kpF F c (5 + 4 * j + x) = F (5 + 4 * j + x) := kp_lo _ _ (by omega)
section Sp
variable {L : Nat} {xs : Nat → Int32} {τ : Mem}
theorem c97 (w1 : tkM τ 8 = (1, 4)) (w2 : prM τ 8 0 = 9) (hs : ShS τ 9) {key y : Int32} (e6 : DoM 6 [.ref (9 + 8), .int key] τ = some (.inl (some (.int y)), τ)) : DoM 97 [.ref 8, .int key] τ = if y = -1 then some (.inr 3, τ) else some (.inl (some (.int y)), τ) := by
  refine (g97_0).trans ?_
  simp only [w1, w2, hs.2.1.1, hs.2.1.2.1, hs.2.1.2.2, hs.2.2.1.1, hs.2.2.1.2.1, hs.2.2.1.2.2.1, hs.2.2.1.2.2.2.1, hs.2.2.1.2.2.2.2.1, hs.2.2.1.2.2.2.2.2.1, hs.2.2.1.2.2.2.2.2.2.1, hs.2.2.1.2.2.2.2.2.2.2.1, hs.2.2.1.2.2.2.2.2.2.2.2, hs.2.2.2.1.1, hs.2.2.2.1.2.1, hs.2.2.2.1.2.2.1, hs.2.2.2.1.2.2.2, hs.2.2.2.2.1.1, hs.2.2.2.2.1.2.1, hs.2.2.2.2.1.2.2, hs.2.2.2.2.2.1.1, hs.2.2.2.2.2.1.2.1, hs.2.2.2.2.2.1.2.2.1, hs.2.2.2.2.2.1.2.2.2.1, hs.2.2.2.2.2.1.2.2.2.2.1, hs.2.2.2.2.2.1.2.2.2.2.2.1, hs.2.2.2.2.2.1.2.2.2.2.2.2, hs.2.2.2.2.2.2.1.1, hs.2.2.2.2.2.2.1.2.1, hs.2.2.2.2.2.2.1.2.2.1, hs.2.2.2.2.2.2.1.2.2.2, hs.2.2.2.2.2.2.2.1, hs.2.2.2.2.2.2.2.2.1, hs.2.2.2.2.2.2.2.2.2, le8 hs.1, if_true, e6, cn_l, Option.toList, List.cons_append, List.nil_append, g97_11]
theorem s46 (h : RW L xs τ) (v w x : Int32) : StW L xs 191 135 [.int v, .int w, .int x] τ := by
  obtain ⟨n, hR, hF, hI⟩ := RW_n h
  have hM : ShM τ 186 := h.1.1.2.2.2
  have w1 : tkM τ 8 = (1, 4) := h.1.1.1.1
  have w2 : prM τ 8 0 = 9 := h.1.1.1.2.1
  have w0 : tkM τ 193 = (5, 1) := h.1.1.2.2.1.2.2.2.2.2.2.2.2.2
  have hs : ShS τ 9 := h.1.1.2.1.1
  by_cases hx : inP v (nQ 0) (nQ 9) ∧ inP w (nQ 0) (nQ 99)
  · by_cases hz : inP x (nQ 0) (nQ 5000)
    · obtain ⟨y, e6, hy⟩ := c6 (d := rw_ τ 9) hs hF.1 hF.2.2.1 (nQ 100 * v + w)
      rw [sB_rw] at e6
      rcases hy with ⟨i, hi, rfl, hk⟩ | ⟨rfl, hk⟩
      · have ej := nQ_m1 (i := i) (by have := hF.2.2.1; omega)
        obtain ⟨j, hj, eq⟩ := fl_to hF hi
        have hkj : rdM τ 187 (5 + 4 * j) = nQ 100 * v + w := (congrArg (·.1) eq).trans hk
        obtain ⟨u0, g0, s, hu0, hg0, hs0, eu, eg, es⟩ := hI.1.1 j hj
        obtain ⟨z, hz5, rfl⟩ := in_ex hz (by decide)
        obtain ⟨τ1, c, hK⟩ := Kp_ex h
        obtain ⟨n', kR, kF, kI, kF0, kI0, krow⟩ := Kp_n h hK
        have en : n' = n := by
          have e1 := kF0.2.1
          rw [hF.2.1, nQ_eq (by have := hF.2.2.1; omega) (by have := kF0.2.2.1; omega)] at e1
          exact e1.symm
        subst en
        have v1 : tkM τ1 8 = (1, 4) := hK.2.1.1.1.1
        have v2 : prM τ1 8 0 = 9 := hK.2.1.1.1.2.1
        have v0 : tkM τ1 193 = (5, 1) := hK.2.1.1.2.2.1.2.2.2.2.2.2.2.2.2
        have hs1 : ShS τ1 9 := hK.2.1.1.2.1.1
        have hM1 : ShM τ1 186 := hK.2.1.1.2.2.2
        have k1 := Kp_w (τ' := τ) hK
        have kk : rw_ τ1 9 9 i = kpF (rdM τ 187) c (5 + 4 * j) := by
          rw [krow 9 (by decide), kp_lo _ c (by have := hF.2.2.1; omega)]
          exact hk.trans hkj.symm
        have ku : kpF (rdM τ 187) c (5 + 4 * j + 1) = nQ u0 := (kp5 _ c hF.2.2.1 hj (by decide)).trans eu
        have kg : kpF (rdM τ 187) c (5 + 4 * j + 2) = nQ g0 := (kp5 _ c hF.2.2.1 hj (by decide)).trans eg
        have ks : kpF (rdM τ 187) c (5 + 4 * j + 3) = nQ s := (kp5 _ c hF.2.2.1 hj (by decide)).trans es
        obtain ⟨d', y1, y2, y3⟩ := c18 hs1 kR kF (fun k _ => rfl) kI.1.2.1 hi hj kk hu0 hg0 hs0 hz5 ku kg ks (rw_ τ 186 5)
        have hm := m135_0 (σ := wrM (sB 17 τ1 9 d') 193 0 (nQ (raN (kpF (rdM τ 187) c) n' (riF (rw_ τ 186 5) (moF (kpF (rdM τ 187) c) j (nQ z)) (nQ 0) (moF (kpF (rdM τ 187) c) j (nQ z)) (nQ 0)) u0 g0))) (d := rw_ τ 186) hM1 hF.2.1 hF.2.2.1 hK.2.2.1.1 hK.2.2.1.2 hI.1.2.1 hx hz hj hkj hu0 hg0 eu eg
        refine StW_K hK (w191_r w1 (show tkM (sB 17 τ1 9 d') 193 = (5, 1) from v0) ?_) hm rfl rfl rfl rfl rfl (fun i hi => rs_hi _ hF.2.2.1 hj _ hu0 hg0 _ hi) ⟨_, y2, y3, IF_rs hF.2.2.1 kI _ hu0 hg0 hz5 hj⟩
        refine (g46_0).trans ?_
        simp (disch := omega) only [cn_l, cn_r, Option.toList, List.cons_append, List.nil_append, if_true, if_false, tk_sB, pr_sB, c93, c94, eq_true hx, eq_true hz, w1, w2, hs.2.1.1, hs.2.1.2.1, hs.2.1.2.2, hs.2.2.1.1, hs.2.2.1.2.1, hs.2.2.1.2.2.1, hs.2.2.1.2.2.2.1, hs.2.2.1.2.2.2.2.1, hs.2.2.1.2.2.2.2.2.1, hs.2.2.1.2.2.2.2.2.2.1, hs.2.2.1.2.2.2.2.2.2.2.1, hs.2.2.1.2.2.2.2.2.2.2.2, hs.2.2.2.1.1, hs.2.2.2.1.2.1, hs.2.2.2.1.2.2.1, hs.2.2.2.1.2.2.2, hs.2.2.2.2.1.1, hs.2.2.2.2.1.2.1, hs.2.2.2.2.1.2.2, hs.2.2.2.2.2.1.1, hs.2.2.2.2.2.1.2.1, hs.2.2.2.2.2.1.2.2.1, hs.2.2.2.2.2.1.2.2.2.1, hs.2.2.2.2.2.1.2.2.2.2.1, hs.2.2.2.2.2.1.2.2.2.2.2.1, hs.2.2.2.2.2.1.2.2.2.2.2.2, hs.2.2.2.2.2.2.1.1, hs.2.2.2.2.2.2.1.2.1, hs.2.2.2.2.2.2.1.2.2.1, hs.2.2.2.2.2.2.1.2.2.2, hs.2.2.2.2.2.2.2.1, hs.2.2.2.2.2.2.2.2.1, hs.2.2.2.2.2.2.2.2.2, le8 hs.1, c97 w1 w2 hs e6, ej, k1, v1, v2, hs1.2.1.1, y1, g46_5, g46_11, g46_17, g46_23, g46_33]
      · refine StW_E h (k := 3) (by decide) (by decide) (w191_E3 w1 ?_) (m135_3 hM hF.2.1 hF.2.2.1 hx hz (fun j hj hkj => by
          obtain ⟨i, hi, e⟩ := fl_fro hF hj
          exact hk i hi ((congrArg (·.1) e).trans hkj)))
        refine (g46_0).trans ?_
        simp (disch := omega) only [cn_l, cn_r, Option.toList, List.cons_append, List.nil_append, if_true, if_false, tk_sB, pr_sB, c93, c94, eq_true hx, eq_true hz, w1, w2, hs.2.1.1, hs.2.1.2.1, hs.2.1.2.2, hs.2.2.1.1, hs.2.2.1.2.1, hs.2.2.1.2.2.1, hs.2.2.1.2.2.2.1, hs.2.2.1.2.2.2.2.1, hs.2.2.1.2.2.2.2.2.1, hs.2.2.1.2.2.2.2.2.2.1, hs.2.2.1.2.2.2.2.2.2.2.1, hs.2.2.1.2.2.2.2.2.2.2.2, hs.2.2.2.1.1, hs.2.2.2.1.2.1, hs.2.2.2.1.2.2.1, hs.2.2.2.1.2.2.2, hs.2.2.2.2.1.1, hs.2.2.2.2.1.2.1, hs.2.2.2.2.1.2.2, hs.2.2.2.2.2.1.1, hs.2.2.2.2.2.1.2.1, hs.2.2.2.2.2.1.2.2.1, hs.2.2.2.2.2.1.2.2.2.1, hs.2.2.2.2.2.1.2.2.2.2.1, hs.2.2.2.2.2.1.2.2.2.2.2.1, hs.2.2.2.2.2.1.2.2.2.2.2.2, hs.2.2.2.2.2.2.1.1, hs.2.2.2.2.2.2.1.2.1, hs.2.2.2.2.2.2.1.2.2.1, hs.2.2.2.2.2.2.1.2.2.2, hs.2.2.2.2.2.2.2.1, hs.2.2.2.2.2.2.2.2.1, hs.2.2.2.2.2.2.2.2.2, le8 hs.1, c97 w1 w2 hs e6, g46_5, g46_11, g46_17, g46_23, g46_33]
    · refine StW_E h (k := 2) (by decide) (by decide) (w191_E2 w1 ?_) (m135_2 hM hx hz)
      refine (g46_0).trans ?_
      simp (disch := omega) only [cn_l, cn_r, Option.toList, List.cons_append, List.nil_append, if_true, if_false, tk_sB, pr_sB, c93, c94, eq_true hx, eq_false hz, g46_5, g46_11, g46_17, g46_23, g46_33]
  · refine StW_E h (k := 1) (by decide) (by decide) (w191_E1 w1 ?_) (m135_1 hM hx)
    refine (g46_0).trans ?_
    simp (disch := omega) only [cn_l, cn_r, Option.toList, List.cons_append, List.nil_append, if_true, if_false, tk_sB, pr_sB, c93, eq_false hx, g46_5, g46_11, g46_17, g46_23, g46_33]
theorem s47 (h : RW L xs τ) (v w : Int32) : StW L xs 192 136 [.int v, .int w] τ := by
  obtain ⟨n, hR, hF, hI⟩ := RW_n h
  have hM : ShM τ 186 := h.1.1.2.2.2
  have w1 : tkM τ 8 = (1, 4) := h.1.1.1.1
  have w2 : prM τ 8 0 = 9 := h.1.1.1.2.1
  have w0 : tkM τ 193 = (5, 1) := h.1.1.2.2.1.2.2.2.2.2.2.2.2.2
  have hs : ShS τ 9 := h.1.1.2.1.1
  by_cases hx : inP v (nQ 0) (nQ 9) ∧ inP w (nQ 0) (nQ 99)
  · obtain ⟨y, e6, hy⟩ := c6 (d := rw_ τ 9) hs hF.1 hF.2.2.1 (nQ 100 * v + w)
    rw [sB_rw] at e6
    rcases hy with ⟨i, hi, rfl, hk⟩ | ⟨rfl, hk⟩
    · have ej := nQ_m1 (i := i) (by have := hF.2.2.1; omega)
      obtain ⟨j, hj, eq⟩ := fl_to hF hi
      have hkj : rdM τ 187 (5 + 4 * j) = nQ 100 * v + w := (congrArg (·.1) eq).trans hk
      obtain ⟨u0, g0, s, hu0, hg0, hs0, eu, eg, es⟩ := hI.1.1 j hj
      obtain ⟨τ1, c, hK⟩ := Kp_ex h
      obtain ⟨n', kR, kF, kI, kF0, kI0, krow⟩ := Kp_n h hK
      have en : n' = n := by
        have e1 := kF0.2.1
        rw [hF.2.1, nQ_eq (by have := hF.2.2.1; omega) (by have := kF0.2.2.1; omega)] at e1
        exact e1.symm
      subst en
      have v1 : tkM τ1 8 = (1, 4) := hK.2.1.1.1.1
      have v2 : prM τ1 8 0 = 9 := hK.2.1.1.1.2.1
      have v0 : tkM τ1 193 = (5, 1) := hK.2.1.1.2.2.1.2.2.2.2.2.2.2.2.2
      have hs1 : ShS τ1 9 := hK.2.1.1.2.1.1
      have hM1 : ShM τ1 186 := hK.2.1.1.2.2.2
      have k1 := Kp_w (τ' := τ) hK
      have kk : rw_ τ1 9 9 i = kpF (rdM τ 187) c (5 + 4 * j) := by
        rw [krow 9 (by decide), kp_lo _ c (by have := hF.2.2.1; omega)]
        exact hk.trans hkj.symm
      have ku : kpF (rdM τ 187) c (5 + 4 * j + 1) = nQ u0 := (kp5 _ c hF.2.2.1 hj (by decide)).trans eu
      have kg : kpF (rdM τ 187) c (5 + 4 * j + 2) = nQ g0 := (kp5 _ c hF.2.2.1 hj (by decide)).trans eg
      have ks : kpF (rdM τ 187) c (5 + 4 * j + 3) = nQ s := (kp5 _ c hF.2.2.1 hj (by decide)).trans es
      obtain ⟨n0, rfl⟩ : ∃ n0, n' = n0 + 1 := ⟨n' - 1, by omega⟩
      have h60 : n0 < 60 := by have := hF.2.2.1; omega
      obtain ⟨d', y1, y2, y3⟩ := c20 hs1 kR kF (fun k _ => rfl) kI.1.2.1 hi hj kk hu0 hg0 ku kg ks
      have hm := m136_0 (σ := wrM (sB 17 τ1 9 d') 193 0 (nQ s)) (d := rw_ τ 186) hM1 hF.2.1 hF.2.2.1 hK.2.2.1.1 hK.2.2.1.2 hI.1.2.1 hx hj hkj
      rw [show rw_ τ 186 1 (5 + 4 * j + 3) = nQ s from es] at hm
      refine StW_K hK (w192_r w1 (show tkM (sB 17 τ1 9 d') 193 = (5, 1) from v0) ?_) hm rfl rfl rfl rfl rfl (by intro i hi; rw [rX_s]; exact de_hi _ h60 hi) (by rw [rX_s]; exact ⟨n0, y2, y3, IF_de h60 kI hj⟩)
      refine (g47_0).trans ?_
      simp (disch := omega) only [cn_l, cn_r, Option.toList, List.cons_append, List.nil_append, if_true, if_false, tk_sB, pr_sB, c93, eq_true hx, w1, w2, hs.2.1.1, hs.2.1.2.1, hs.2.1.2.2, hs.2.2.1.1, hs.2.2.1.2.1, hs.2.2.1.2.2.1, hs.2.2.1.2.2.2.1, hs.2.2.1.2.2.2.2.1, hs.2.2.1.2.2.2.2.2.1, hs.2.2.1.2.2.2.2.2.2.1, hs.2.2.1.2.2.2.2.2.2.2.1, hs.2.2.1.2.2.2.2.2.2.2.2, hs.2.2.2.1.1, hs.2.2.2.1.2.1, hs.2.2.2.1.2.2.1, hs.2.2.2.1.2.2.2, hs.2.2.2.2.1.1, hs.2.2.2.2.1.2.1, hs.2.2.2.2.1.2.2, hs.2.2.2.2.2.1.1, hs.2.2.2.2.2.1.2.1, hs.2.2.2.2.2.1.2.2.1, hs.2.2.2.2.2.1.2.2.2.1, hs.2.2.2.2.2.1.2.2.2.2.1, hs.2.2.2.2.2.1.2.2.2.2.2.1, hs.2.2.2.2.2.1.2.2.2.2.2.2, hs.2.2.2.2.2.2.1.1, hs.2.2.2.2.2.2.1.2.1, hs.2.2.2.2.2.2.1.2.2.1, hs.2.2.2.2.2.2.1.2.2.2, hs.2.2.2.2.2.2.2.1, hs.2.2.2.2.2.2.2.2.1, hs.2.2.2.2.2.2.2.2.2, le8 hs.1, c97 w1 w2 hs e6, ej, k1, v1, v2, hs1.2.1.1, y1, g47_5, g47_11, g47_17, g47_26]
    · refine StW_E h (k := 2) (by decide) (by decide) (w192_E3 w1 ?_) (m136_2 hM hF.2.1 hF.2.2.1 hx (fun j hj hkj => by
          obtain ⟨i, hi, e⟩ := fl_fro hF hj
          exact hk i hi ((congrArg (·.1) e).trans hkj)))
      refine (g47_0).trans ?_
      simp (disch := omega) only [cn_l, cn_r, Option.toList, List.cons_append, List.nil_append, if_true, if_false, tk_sB, pr_sB, c93, eq_true hx, w1, w2, hs.2.1.1, hs.2.1.2.1, hs.2.1.2.2, hs.2.2.1.1, hs.2.2.1.2.1, hs.2.2.1.2.2.1, hs.2.2.1.2.2.2.1, hs.2.2.1.2.2.2.2.1, hs.2.2.1.2.2.2.2.2.1, hs.2.2.1.2.2.2.2.2.2.1, hs.2.2.1.2.2.2.2.2.2.2.1, hs.2.2.1.2.2.2.2.2.2.2.2, hs.2.2.2.1.1, hs.2.2.2.1.2.1, hs.2.2.2.1.2.2.1, hs.2.2.2.1.2.2.2, hs.2.2.2.2.1.1, hs.2.2.2.2.1.2.1, hs.2.2.2.2.1.2.2, hs.2.2.2.2.2.1.1, hs.2.2.2.2.2.1.2.1, hs.2.2.2.2.2.1.2.2.1, hs.2.2.2.2.2.1.2.2.2.1, hs.2.2.2.2.2.1.2.2.2.2.1, hs.2.2.2.2.2.1.2.2.2.2.2.1, hs.2.2.2.2.2.1.2.2.2.2.2.2, hs.2.2.2.2.2.2.1.1, hs.2.2.2.2.2.2.1.2.1, hs.2.2.2.2.2.2.1.2.2.1, hs.2.2.2.2.2.2.1.2.2.2, hs.2.2.2.2.2.2.2.1, hs.2.2.2.2.2.2.2.2.1, hs.2.2.2.2.2.2.2.2.2, le8 hs.1, c97 w1 w2 hs e6, g47_5, g47_11, g47_17, g47_26]
  · refine StW_E h (k := 1) (by decide) (by decide) (w192_E1 w1 ?_) (m136_1 hM hx)
    refine (g47_0).trans ?_
    simp (disch := omega) only [cn_l, cn_r, Option.toList, List.cons_append, List.nil_append, if_true, if_false, tk_sB, pr_sB, c93, eq_false hx, g47_5, g47_11, g47_17, g47_26]
theorem s48 (h : RW L xs τ) (v w x y : Int32) : StW L xs 193 137 [.int v, .int w, .int x, .int y] τ := by
  obtain ⟨n, hR, hF, hI⟩ := RW_n h
  have hM : ShM τ 186 := h.1.1.2.2.2
  have w1 : tkM τ 8 = (1, 4) := h.1.1.1.1
  have w2 : prM τ 8 0 = 9 := h.1.1.1.2.1
  have w0 : tkM τ 193 = (5, 1) := h.1.1.2.2.1.2.2.2.2.2.2.2.2.2
  have hs : ShS τ 9 := h.1.1.2.1.1
  by_cases hX : inP v (nQ 0) (nQ 9) ∧ inP w (nQ 0) (nQ 99) ∧ inP x (nQ 0) (nQ 5) ∧ inP y (nQ 0) (nQ 2)
  · have hx : inP v (nQ 0) (nQ 9) ∧ inP w (nQ 0) (nQ 99) := ⟨hX.1, hX.2.1⟩
    obtain ⟨-, -, hu', hg'⟩ := hX
    obtain ⟨z, e6, hy⟩ := c6 (d := rw_ τ 9) hs hF.1 hF.2.2.1 (nQ 100 * v + w)
    rw [sB_rw] at e6
    rcases hy with ⟨i, hi, rfl, hk⟩ | ⟨rfl, hk⟩
    · have ej := nQ_m1 (i := i) (by have := hF.2.2.1; omega)
      obtain ⟨j, hj, eq⟩ := fl_to hF hi
      have hkj : rdM τ 187 (5 + 4 * j) = nQ 100 * v + w := (congrArg (·.1) eq).trans hk
      obtain ⟨u0, g0, s, hu0, hg0, hs0, eu, eg, es⟩ := hI.1.1 j hj
      obtain ⟨u, hu, rfl⟩ := in_ex hu' (by decide)
      obtain ⟨g, hg, rfl⟩ := in_ex hg' (by decide)
      obtain ⟨τ1, c, hK⟩ := Kp_ex h
      obtain ⟨n', kR, kF, kI, kF0, kI0, krow⟩ := Kp_n h hK
      have en : n' = n := by
        have e1 := kF0.2.1
        rw [hF.2.1, nQ_eq (by have := hF.2.2.1; omega) (by have := kF0.2.2.1; omega)] at e1
        exact e1.symm
      subst en
      have v1 : tkM τ1 8 = (1, 4) := hK.2.1.1.1.1
      have v2 : prM τ1 8 0 = 9 := hK.2.1.1.1.2.1
      have v0 : tkM τ1 193 = (5, 1) := hK.2.1.1.2.2.1.2.2.2.2.2.2.2.2.2
      have hs1 : ShS τ1 9 := hK.2.1.1.2.1.1
      have hM1 : ShM τ1 186 := hK.2.1.1.2.2.2
      have k1 := Kp_w (τ' := τ) hK
      have kk : rw_ τ1 9 9 i = kpF (rdM τ 187) c (5 + 4 * j) := by
        rw [krow 9 (by decide), kp_lo _ c (by have := hF.2.2.1; omega)]
        exact hk.trans hkj.symm
      have ku : kpF (rdM τ 187) c (5 + 4 * j + 1) = nQ u0 := (kp5 _ c hF.2.2.1 hj (by decide)).trans eu
      have kg : kpF (rdM τ 187) c (5 + 4 * j + 2) = nQ g0 := (kp5 _ c hF.2.2.1 hj (by decide)).trans eg
      have ks : kpF (rdM τ 187) c (5 + 4 * j + 3) = nQ s := (kp5 _ c hF.2.2.1 hj (by decide)).trans es
      obtain ⟨d', y1, y2, y3⟩ := c21 hs1 kR kF (fun k _ => rfl) kI.1.2.1 hi hj kk hu0 hg0 hs0 ku kg ks (u := u) (g := g) (by omega) (by omega) (rw_ τ 186 5)
      have hm := m137_0 (σ := wrM (sB 17 τ1 9 d') 193 0 (nQ (raN (kpF (rdM τ 187) c) n' (mrF (kpF (rdM τ 187) c) (rw_ τ 186 5) u g j) u g))) (d := rw_ τ 186) hM1 hF.2.1 hF.2.2.1 hK.2.2.1.1 hK.2.2.1.2 hI.1.2.1 hx hj hkj (u := u) (g := g) (by omega) (by omega)
      refine StW_K hK (w193_r w1 (show tkM (sB 17 τ1 9 d') 193 = (5, 1) from v0) ?_) hm rfl rfl rfl rfl rfl (fun i hi => mv_hi _ hF.2.2.1 hj _ (by omega) (by omega) hi) ⟨_, y2, y3, IF_mv hF.2.2.1 kI _ (by omega) (by omega) hj⟩
      refine (g48_0).trans ?_
      simp (disch := omega) only [cn_l, cn_r, Option.toList, List.cons_append, List.nil_append, if_true, if_false, tk_sB, pr_sB, c93, c87, c88, eq_true hx, eq_true hu', eq_true hg', w1, w2, hs.2.1.1, hs.2.1.2.1, hs.2.1.2.2, hs.2.2.1.1, hs.2.2.1.2.1, hs.2.2.1.2.2.1, hs.2.2.1.2.2.2.1, hs.2.2.1.2.2.2.2.1, hs.2.2.1.2.2.2.2.2.1, hs.2.2.1.2.2.2.2.2.2.1, hs.2.2.1.2.2.2.2.2.2.2.1, hs.2.2.1.2.2.2.2.2.2.2.2, hs.2.2.2.1.1, hs.2.2.2.1.2.1, hs.2.2.2.1.2.2.1, hs.2.2.2.1.2.2.2, hs.2.2.2.2.1.1, hs.2.2.2.2.1.2.1, hs.2.2.2.2.1.2.2, hs.2.2.2.2.2.1.1, hs.2.2.2.2.2.1.2.1, hs.2.2.2.2.2.1.2.2.1, hs.2.2.2.2.2.1.2.2.2.1, hs.2.2.2.2.2.1.2.2.2.2.1, hs.2.2.2.2.2.1.2.2.2.2.2.1, hs.2.2.2.2.2.1.2.2.2.2.2.2, hs.2.2.2.2.2.2.1.1, hs.2.2.2.2.2.2.1.2.1, hs.2.2.2.2.2.2.1.2.2.1, hs.2.2.2.2.2.2.1.2.2.2, hs.2.2.2.2.2.2.2.1, hs.2.2.2.2.2.2.2.2.1, hs.2.2.2.2.2.2.2.2.2, le8 hs.1, c97 w1 w2 hs e6, ej, k1, v1, v2, hs1.2.1.1, y1, g48_5, g48_11, g48_16, g48_22, g48_28, g48_40]
    · refine StW_E h (k := 2) (by decide) (by decide) (w193_E3 w1 ?_) (m137_2 hM hF.2.1 hF.2.2.1 hx hu' hg' (fun j hj hkj => by
          obtain ⟨i, hi, e⟩ := fl_fro hF hj
          exact hk i hi ((congrArg (·.1) e).trans hkj)))
      refine (g48_0).trans ?_
      simp (disch := omega) only [cn_l, cn_r, Option.toList, List.cons_append, List.nil_append, if_true, if_false, tk_sB, pr_sB, c93, c87, c88, eq_true hx, eq_true hu', eq_true hg', w1, w2, hs.2.1.1, hs.2.1.2.1, hs.2.1.2.2, hs.2.2.1.1, hs.2.2.1.2.1, hs.2.2.1.2.2.1, hs.2.2.1.2.2.2.1, hs.2.2.1.2.2.2.2.1, hs.2.2.1.2.2.2.2.2.1, hs.2.2.1.2.2.2.2.2.2.1, hs.2.2.1.2.2.2.2.2.2.2.1, hs.2.2.1.2.2.2.2.2.2.2.2, hs.2.2.2.1.1, hs.2.2.2.1.2.1, hs.2.2.2.1.2.2.1, hs.2.2.2.1.2.2.2, hs.2.2.2.2.1.1, hs.2.2.2.2.1.2.1, hs.2.2.2.2.1.2.2, hs.2.2.2.2.2.1.1, hs.2.2.2.2.2.1.2.1, hs.2.2.2.2.2.1.2.2.1, hs.2.2.2.2.2.1.2.2.2.1, hs.2.2.2.2.2.1.2.2.2.2.1, hs.2.2.2.2.2.1.2.2.2.2.2.1, hs.2.2.2.2.2.1.2.2.2.2.2.2, hs.2.2.2.2.2.2.1.1, hs.2.2.2.2.2.2.1.2.1, hs.2.2.2.2.2.2.1.2.2.1, hs.2.2.2.2.2.2.1.2.2.2, hs.2.2.2.2.2.2.2.1, hs.2.2.2.2.2.2.2.2.1, hs.2.2.2.2.2.2.2.2.2, le8 hs.1, c97 w1 w2 hs e6, g48_5, g48_11, g48_16, g48_22, g48_28, g48_40]
  · refine StW_E h (k := 1) (by decide) (by decide) (w193_E1 w1 ?_) (m137_1 hM hX)
    refine (g48_0).trans ?_
    by_cases hx : inP v (nQ 0) (nQ 9) ∧ inP w (nQ 0) (nQ 99)
    · by_cases hu' : inP x (nQ 0) (nQ 5)
      · have hg' : ¬ inP y (nQ 0) (nQ 2) := fun z => hX ⟨hx.1, hx.2, hu', z⟩
        simp (disch := omega) only [cn_l, cn_r, Option.toList, List.cons_append, List.nil_append, if_true, if_false, tk_sB, pr_sB, c93, c87, c88, eq_true hx, eq_true hu', eq_false hg', g48_5, g48_11, g48_16, g48_22, g48_28, g48_40]
      · simp (disch := omega) only [cn_l, cn_r, Option.toList, List.cons_append, List.nil_append, if_true, if_false, tk_sB, pr_sB, c93, c87, eq_true hx, eq_false hu', g48_5, g48_11, g48_16, g48_22, g48_28, g48_40]
    · simp (disch := omega) only [cn_l, cn_r, Option.toList, List.cons_append, List.nil_append, if_true, if_false, tk_sB, pr_sB, c93, eq_false hx, g48_5, g48_11, g48_16, g48_22, g48_28, g48_40]
end Sp
