/-! The face's operations, on both sides. -/
theorem rv_hi (f : Nat → Int32) (n a r : Nat) (hk : 2 * a + r < 18) {i : Nat} (h : 357 ≤ i) : rvF f n a r i = f i := q_rv f n a r hk (Or.inr h)
theorem rA_hi (f : Nat → Int32) (n : Nat) {i : Nat} (h : 357 ≤ i) : rvA f n 18 i = f i := q_rA f n (Or.inr h) 18 (Nat.le_refl _)
theorem cr_hi (f : Nat → Int32) {n : Nat} (h60 : n < 60) (ri : Nat → Int32) {u g : Nat} (hu : u < 6) (hg : g < 3) (p z : Int32) {i : Nat} (h : 357 ≤ i) : crF f n ri u g p z i = f i := by
  unfold crF
  split
  · rw [rA_hi _ _ h, up_n (by omega), up_n (by omega), up_n (by omega), up_n (by omega), up_n (by omega)]
  · exact rf_lo _ _ _ hu hg (Or.inr h)
theorem rs_hi (f : Nat → Int32) {n j : Nat} (h60 : n ≤ 60) (hj : j < n) (ri : Nat → Int32) {u g : Nat} (hu : u < 6) (hg : g < 3) (z : Int32) {i : Nat} (h : 357 ≤ i) : rsF f n ri u g j z i = f i := by
  unfold rsF
  split
  · rw [rA_hi _ _ h, up_n (by omega)]
  · exact rf_lo _ _ _ hu hg (Or.inr h)
theorem mv_hi (f : Nat → Int32) {n j : Nat} (h60 : n ≤ 60) (hj : j < n) (ri : Nat → Int32) {u g : Nat} (hu : u < 6) (hg : g < 3) {i : Nat} (h : 357 ≤ i) : mvF f n ri u g j i = f i := by
  unfold mvF
  split
  · rw [rA_hi _ _ h, up_n (by omega), up_n (by omega)]
  · exact rf_lo _ _ _ hu hg (Or.inr h)
theorem de_hi (f : Nat → Int32) {n j : Nat} (h60 : n < 60) {i : Nat} (h : 357 ≤ i) : deF f (n + 1) j i = f i := by
  unfold deF
  rw [rA_hi _ _ h]
  unfold deK
  rw [if_neg (by omega), up_n (by omega)]
theorem ed_hi (f : Nat → Int32) {i : Nat} (h : 357 ≤ i) : ∀ k, edR f k i = f i
  | 0 => rfl
  | k + 1 => by
    rw [edR_s]
    split
    · rw [lg_hi _ _ _ _ h]; exact ed_hi f h k
    · exact ed_hi f h k
theorem dy_hi (f : Nat → Int32) {i : Nat} (h : 357 ≤ i) : ∀ m, dyR f m i = f i
  | 0 => rfl
  | m + 1 => by rw [dyR_s, ed_hi _ h, up_n (by omega)]; exact dy_hi f h m
theorem ed_lo (f : Nat → Int32) {i : Nat} (h : i < 308) : ∀ k, edR f k i = f i
  | 0 => rfl
  | k + 1 => by
    rw [edR_s]
    split
    · rw [lg_lo _ _ _ _ h]; exact ed_lo f h k
    · exact ed_lo f h k
theorem dy_lo (f : Nat → Int32) {i : Nat} (h : i < 308) (h0 : 0 < i) : ∀ m, dyR f m i = f i
  | 0 => rfl
  | m + 1 => by rw [dyR_s, ed_lo _ h, up_n (by omega)]; exact dy_lo f h h0 m
def KpX (L : Nat) (xs : Nat → Int32) (τ τ1 : Mem) (c : Nat) : Prop := DoM 101 [.ref 8] τ = some (.inl none, τ1) ∧ (WdX τ1 ∧ StX L xs τ1) ∧ (rdM τ 186 2 = nQ c ∧ c ≤ 6) ∧ tkM τ1 = tkM τ ∧ (∀ v, v < 8 ∨ (9 ≤ v ∧ v < 44) ∨ 146 ≤ v → rdM τ1 v = rdM τ v) ∧
    ∀ σf : Mem, tkM σf = tkM τ1 → prM σf = prM τ1 → (∀ v, v < 8 ∨ (44 ≤ v ∧ v < 182) ∨ v = 183 ∨ v = 188 ∨ v = 189 → rdM σf v = rdM τ1 v) → rdM σf 8 3 = rdM τ1 8 3 → rdM σf 182 1 = rdM τ1 182 1 → rdM σf 186 5 = rdM τ1 186 5 → rdM σf 186 2 = nQ (csN c) → (∀ i, 357 ≤ i → rdM σf 187 i = kpF (rdM τ 187) c i) → RlS (rw_ σf 9) (rdM σf 187) → RW L xs σf
section So
variable {L : Nat} {xs : Nat → Int32} {τ τ1 : Mem} {c : Nat}
theorem Kp_ex (h : RW L xs τ) : ∃ τ1 c, KpX L xs τ τ1 c := RW_keep h
theorem Kp_w {τ' : Mem} (hK : KpX L xs τ τ1 c) : DoM 101 [.ref 8] τ = some (.inl none, sB 17 τ1 9 (rw_ τ1 9)) := by
  rw [sB_rw]
  exact hK.1
/-- the present state, as the kept one -/
theorem Kp_n (h : RW L xs τ) (hK : KpX L xs τ τ1 c) : ∃ n, RlC (rw_ τ1 9) (kpF (rdM τ 187) c) (fun k => usF (kpF (rdM τ 187) c) (nQ (k / 2)) (k - k / 2 * 2) n) ∧ FlR (rw_ τ1 9) (kpF (rdM τ 187) c) n ∧ InvF (kpF (rdM τ 187) c) n ∧ FlR (rw_ τ 9) (rdM τ 187) n ∧ InvF (rdM τ 187) n ∧ ∀ u, u < 17 → rw_ τ1 9 u = rw_ τ 9 u := by
  have hrow : ∀ u, u < 17 → rw_ τ1 9 u = rw_ τ 9 u := rw_cg (fun v h1 h2 => hK.2.2.2.2.1 v (by omega))
  obtain ⟨n, hR, hF, hI⟩ := RW_n h
  have hS : RlS (rw_ τ 9) (rdM τ 187) := ⟨n, hR, hF, hI⟩
  obtain ⟨n', hR', hF', hI'⟩ := RS_d (RS_f (f' := kpF (rdM τ 187) c) hS (fun i hi => kp_lo _ c hi)) hrow
  have en : n' = n := by
    have e1 := hF'.2.1
    rw [kp_lo _ c (by decide), hF.2.1] at e1
    rw [nQ_eq (by have := hF.2.2.1; omega) (by have := hF'.2.2.1; omega)] at e1
    exact e1.symm
  rw [en] at hR' hF' hI'
  exact ⟨n, hR', hF', hI', hF, hI, hrow⟩
theorem StW_K (hK : KpX L xs τ τ1 c) {w m : Nat} {as : List Value} {d' D : Nat → Nat → Int32} {v : Int32} (hw : DoM w (.ref 8 :: (as ++ [.ref 193])) τ = some (.inl (some (.int (nQ 0))), wrM (sB 17 τ1 9 d') 193 0 v)) (hm : DoM m (.ref 186 :: as) (sB 7 (wrM (sB 17 τ1 9 d') 193 0 v) 186 (rw_ τ 186)) = some (.inl (some (.int v)), sB 7 (wrM (sB 17 τ1 9 d') 193 0 v) 186 D)) (h2 : D 2 = rw_ τ 186 2) (h3 : D 3 = rw_ τ 186 3) (h0 : D 0 0 = nQ 0) (h05 : D 0 5 = rw_ τ 186 0 5) (h02 : D 0 2 = nQ (csN c)) (h1 : ∀ i, 357 ≤ i → D 1 i = kpF (rdM τ 187) c i) (hS : RlS d' (D 1)) : StW L xs w m as τ := by
  obtain ⟨k1, k2, k3, k4, k5, k6⟩ := hK
  rw [sB_rw2 (fun v h1 h2 => by rw [rdf_wr (by omega), rdf_out (by omega)]; exact k5 v (by omega))] at hm
  have r0 : rdM (sB 7 (wrM (sB 17 τ1 9 d') 193 0 v) 186 D) 186 = D 0 := rdf_in (u := 0) (b := 186) (by decide)
  have r1 : rdM (sB 7 (wrM (sB 17 τ1 9 d') 193 0 v) 186 D) 187 = D 1 := rdf_in (u := 1) (b := 186) (by decide)
  refine ⟨_, _, 0, v, hw, hm, by decide, by rw [r0, h0], fun _ => ?_, EqI_s _ _, k6 _ rfl rfl (fun v hv => ?_) ?_ ?_ ?_ ?_ (fun i hi => by rw [r1]; exact h1 i hi) ?_⟩
  · rw [rdf_out (by omega)]
    exact rd_wr_s _ _ _ _
  · by_cases e : 186 ≤ v
    · rcases (show v = 188 ∨ v = 189 by omega) with rfl | rfl
      · rw [k5 188 (by omega)]
        exact (rdf_in (u := 2) (by decide)).trans h2
      · rw [k5 189 (by omega)]
        exact (rdf_in (u := 3) (by decide)).trans h3
    · rw [rdf_out (by omega), rdf_wr (by omega), rdf_out (by omega)]
  · rw [rdf_out (by omega), rdf_wr (by omega), rdf_out (by omega)]
  · rw [rdf_out (by omega), rdf_wr (by omega), rdf_out (by omega)]
  · rw [r0, h05, k5 186 (by omega)]
    rfl
  · rw [r0, h02]
  · rw [r1]
    refine RS_d hS (fun u hu => ?_)
    show rdM (sB 7 (wrM (sB 17 τ1 9 d') 193 0 v) 186 D) (9 + u) = d' u
    rw [rdf_out (by omega), rdf_wr (by omega), rdf_in hu]
theorem s45 (h : RW L xs τ) (u g v w x : Int32) : StW L xs 190 134 [.int u, .int g, .int v, .int w, .int x] τ := by
  obtain ⟨n, hR, hF, hI⟩ := RW_n h
  have hM : ShM τ 186 := h.1.1.2.2.2
  have w1 : tkM τ 8 = (1, 4) := h.1.1.1.1
  have w2 : prM τ 8 0 = 9 := h.1.1.1.2.1
  have w0 : tkM τ 193 = (5, 1) := h.1.1.2.2.1.2.2.2.2.2.2.2.2.2
  have hs : ShS τ 9 := h.1.1.2.1.1
  by_cases hx : inP u (nQ 0) (nQ 5) ∧ inP g (nQ 0) (nQ 2) ∧ inP v (nQ 0) (nQ 9) ∧ inP w (nQ 0) (nQ 99)
  · obtain ⟨x1, x2, x3, x4⟩ := hx
    have e93 := eq_true (show inP v (nQ 0) (nQ 9) ∧ inP w (nQ 0) (nQ 99) from ⟨x3, x4⟩)
    by_cases hz : inP x (nQ 0) (nQ 5000)
    · have e16 := c16 (d := rw_ τ 9) hs hF.1 hF.2.2.1 (nQ 100 * v + w)
      rw [sB_rw] at e16
      by_cases hc : n < 60 ∧ ∀ i, i < n → ¬ rw_ τ 9 9 i = nQ 100 * v + w
      · rw [if_pos hc] at e16
        obtain ⟨u, hu, rfl⟩ := in_ex x1 (by decide)
        obtain ⟨g, hg, rfl⟩ := in_ex x2 (by decide)
        obtain ⟨v, hv, rfl⟩ := in_ex x3 (by decide)
        obtain ⟨w, hw, rfl⟩ := in_ex x4 (by decide)
        obtain ⟨z, hz5, rfl⟩ := in_ex hz (by decide)
        obtain ⟨τ1, c, hK⟩ := Kp_ex h
        obtain ⟨n', kR, kF, kI, kF0, kI0, krow⟩ := Kp_n h hK
        have en : n' = n := by
          have e1 := kF0.2.1
          rw [hF.2.1, nQ_eq (by have := hF.2.2.1; omega) (by have := kF0.2.2.1; omega)] at e1
          exact e1.symm
        subst en
        have v1 : tkM τ1 8 = (1, 4) := hK.2.1.1.1.1
        have v2 : prM τ1 8 0 = 9 := hK.2.1.1.1.2.1
        have v0 : tkM τ1 193 = (5, 1) := hK.2.1.1.2.2.1.2.2.2.2.2.2.2.2.2
        have hs1 : ShS τ1 9 := hK.2.1.1.2.1.1
        have k1 := Kp_w (τ' := τ) hK
        have hfr : ∀ i, i < n' → ¬ rdM τ 187 (5 + 4 * i) = nQ (100 * v + w) := fun i hi e => by
          obtain ⟨j, hj, e'⟩ := fl_fro hF hi
          refine hc.2 j hj (((congrArg (·.1) e').trans e).trans ?_)
          rw [nQ_mul, nQ_add]
        obtain ⟨d', y1, y2, y3⟩ := c17 hs1 kR kF (fun k _ => rfl) hc.1 (u := u) (g := g) (by omega) (by omega) hz5 (nQ (100 * v + w)) (rw_ τ 186 5)
        have hm := m134_0 (σ := wrM (sB 17 τ1 9 d') 193 0 (nQ (raN (kpF (rdM τ 187) c) n' (riF (rw_ τ 186 5) (nQ z) (nQ 1) (nQ z) (nQ 1)) u g))) (d := rw_ τ 186) (by have := hK.2.1.1.2.2.2; exact this) hF.2.1 hc.1 hK.2.2.1.1 hK.2.2.1.2 (u := u) (g := g) (w := v) (x := w) (z := z) (by omega) (by omega) (by omega) (by omega) hz5 hfr
        refine StW_K hK (w190_r w1 (show tkM (sB 17 τ1 9 d') 193 = (5, 1) from v0) ?_) hm rfl rfl rfl rfl rfl (fun i hi => cr_hi _ hc.1 _ (by omega) (by omega) _ _ hi) ⟨_, y2, y3, IF_cr hc.1 kI _ (by omega) (by omega) hz5 (fun i hi => by rw [kp_lo _ c (by omega)]; exact hfr i hi)⟩
        refine (g45_0).trans ?_
        have key : nQ 100 * nQ v + nQ w = nQ (100 * v + w) := by rw [nQ_mul, nQ_add]
        rw [key] at e16
        simp (disch := omega) only [cn_l, Option.toList, List.cons_append, List.nil_append, if_true, if_false, tk_sB, pr_sB, c87, c88, c93, c94, eq_true x1, eq_true x2, e93, eq_true hz, key, w1, w2, hs.2.1.1, e16, q10, k1, v1, v2, hs1.2.1.1, y1, g45_4, g45_8, g45_14, g45_21, g45_30, g45_47, g45_60]
      · rw [if_neg hc] at e16
        refine StW_E h (k := 3) (by decide) (by decide) (w190_E3 w1 ?_) (m134_3 hM hF.2.1 hF.2.2.1 x1 x2 x3 x4 hz ?_)
        · refine (g45_0).trans ?_
          simp (disch := omega) only [cn_l, Option.toList, List.cons_append, List.nil_append, if_true, if_false, c87, c88, c93, c94, eq_true x1, eq_true x2, e93, eq_true hz, w1, w2, hs.2.1.1, e16, g45_4, g45_8, g45_14, g45_21, g45_30, g45_47, g45_60]
        · by_cases h60 : n < 60
          · refine Or.inr (Classical.byContradiction fun z => hc ⟨h60, fun i hi e => ?_⟩)
            obtain ⟨j, hj, e'⟩ := fl_to hF hi
            exact z ⟨j, hj, (congrArg (·.1) e').trans e⟩
          · exact Or.inl (by have := hF.2.2.1; omega)
    · refine StW_E h (k := 2) (by decide) (by decide) (w190_E2 w1 ?_) (m134_2 hM hF.2.1 hF.2.2.1 x1 x2 x3 x4 hz)
      refine (g45_0).trans ?_
      simp only [cn_l, cn_r, Option.toList, List.cons_append, List.nil_append, if_true, if_false, c87, c88, c93, c94, eq_true x1, eq_true x2, e93, eq_false hz, g45_4, g45_8, g45_14, g45_21, g45_30, g45_47, g45_60]
  · refine StW_E h (k := 1) (by decide) (by decide) (w190_E1 w1 ?_) (m134_1 hM hx)
    refine (g45_0).trans ?_
    rcases Classical.propComplete (inP u (nQ 0) (nQ 5)) with e1 | e1
    · rcases Classical.propComplete (inP g (nQ 0) (nQ 2)) with e2 | e2
      · have e3 : ¬ (inP v (nQ 0) (nQ 9) ∧ inP w (nQ 0) (nQ 99)) := fun z => hx ⟨of_eq_true e1, of_eq_true e2, z⟩
        simp only [c87, c88, c93, e1, e2, eq_false e3, cn_l, cn_r, Option.toList, List.cons_append, List.nil_append, if_true, if_false, g45_4, g45_8, g45_14, g45_21, g45_30, g45_47, g45_60]
      · simp only [c87, c88, e1, e2, cn_l, cn_r, Option.toList, List.cons_append, List.nil_append, if_true, if_false, g45_4, g45_8, g45_14, g45_21, g45_30, g45_47, g45_60]
    · simp only [c87, e1, cn_r, if_false]
end So
