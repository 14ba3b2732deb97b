/-! The face's queries, on both sides. -/
def EqI (τ1 τ2 : Mem) : Prop := tkM τ2 = tkM τ1 ∧ ∀ v, v < 8 → rdM τ2 v = rdM τ1 v
theorem EqI_s (τ : Mem) (D : Nat → Nat → Int32) : EqI τ (sB 7 τ 186 D) := ⟨rfl, fun v hv => rdf_out (by omega)⟩
def StW (L : Nat) (xs : Nat → Int32) (w m : Nat) (as : List Value) (τ : Mem) : Prop := ∃ τ1 τ2 k v, DoM w (.ref 8 :: (as ++ [.ref 193])) τ = some (.inl (some (.int (nQ k))), τ1) ∧ DoM m (.ref 186 :: as) τ1 = some (.inl (some (.int v)), τ2) ∧ k ≤ 3 ∧ rdM τ2 186 0 = nQ k ∧ (k = 0 → rdM τ2 193 0 = v) ∧ EqI τ1 τ2 ∧ RW L xs τ2
theorem sB_cg {n : Nat} {σ : Mem} {b : Nat} {d d' : Nat → Nat → Int32} (h : ∀ u, u < n → d u = d' u) : sB n σ b d = sB n σ b d' := by
  show (σ.1, σ.2.1, _, σ.2.2.2) = (σ.1, σ.2.1, _, σ.2.2.2)
  congr 3
  funext a i
  show (if b ≤ a ∧ a < b + n then d (a - b) i else σ.2.2.1 a i) = if b ≤ a ∧ a < b + n then d' (a - b) i else σ.2.2.1 a i
  by_cases c : b ≤ a ∧ a < b + n
  · rw [if_pos c, if_pos c, h (a - b) (by omega)]
  · rw [if_neg c, if_neg c]
theorem sB_rw2 {n : Nat} {τ σ : Mem} {b : Nat} (h : ∀ v, b ≤ v → v < b + n → rdM τ v = rdM σ v) : sB n τ b (rw_ σ b) = τ := by
  rw [sB_cg (d := rw_ σ b) (d' := rw_ τ b) (fun u hu => (h (b + u) (by omega) (by omega)).symm)]
  exact sB_rw n τ b
/-- what a query leaves of the model's rows -/
def MdQ (d D : Nat → Nat → Int32) : Prop := D 1 = d 1 ∧ D 2 = d 2 ∧ D 3 = d 3 ∧ D 0 2 = d 0 2 ∧ D 0 5 = d 0 5
/-- what a query leaves of the class's rows -/
def ClQ (τ τ1 : Mem) : Prop := tkM τ1 = tkM τ ∧ prM τ1 = prM τ ∧ (∀ v, v < 26 ∨ (44 ≤ v ∧ v < 182) ∨ v = 183 ∨ (186 ≤ v ∧ v < 193) → rdM τ1 v = rdM τ v) ∧ rdM τ1 182 1 = rdM τ 182 1
theorem Cl_rfl (τ : Mem) : ClQ τ τ := ⟨rfl, rfl, fun _ _ => rfl, rfl⟩
section Qu
variable {L : Nat} {xs : Nat → Int32} {τ : Mem}
theorem RW_q (h : RW L xs τ) {τ1 : Mem} (hc : ClQ τ τ1) {D : Nat → Nat → Int32} (hD : MdQ (rw_ τ 186) D) (x : Int32) : RW L xs (sB 7 (wrM τ1 193 0 x) 186 D) := by
  obtain ⟨c1, c2, c3, c4⟩ := hc
  obtain ⟨d1, d2, d3, d4, d5⟩ := hD
  refine RW_same h c1 c2 (fun v hv => ?_) ?_ ?_ ?_ ?_
  · by_cases e : 187 ≤ v
    · rcases (show v = 187 ∨ v = 188 ∨ v = 189 by omega) with rfl | rfl | rfl
      · exact (rdf_in (u := 1) (by decide)).trans d1
      · exact (rdf_in (u := 2) (by decide)).trans d2
      · exact (rdf_in (u := 3) (by decide)).trans d3
    · rw [rdf_out (by omega), rdf_wr (by omega)]
      exact c3 v (by omega)
  · rw [rdf_out (by omega), rdf_wr (by omega), c3 8 (by omega)]
  · rw [rdf_out (by omega), rdf_wr (by omega), c4]
  · exact (congrFun (rdf_in (u := 0) (b := 186) (by decide)) 5).trans d5
  · exact (congrFun (rdf_in (u := 0) (b := 186) (by decide)) 2).trans d4
theorem RW_th (h : RW L xs τ) (k : Nat) : RW L xs (sB 7 τ 186 (thF (rw_ τ 186) k)) := by
  refine RW_same h rfl rfl (fun v hv => ?_) ?_ ?_ ?_ ?_
  · by_cases e : 187 ≤ v
    · rcases (show v = 187 ∨ v = 188 ∨ v = 189 by omega) with rfl | rfl | rfl
      · exact rdf_in (u := 1) (by decide)
      · exact rdf_in (u := 2) (by decide)
      · exact rdf_in (u := 3) (by decide)
    · rw [rdf_out (by omega)]
  · rw [rdf_out (by omega)]
  · rw [rdf_out (by omega)]
  · exact congrFun (rdf_in (u := 0) (b := 186) (by decide)) 5
  · exact congrFun (rdf_in (u := 0) (b := 186) (by decide)) 2
theorem StW_E (h : RW L xs τ) {w m k : Nat} {as : List Value} (hk : ¬ k = 0) (hk3 : k ≤ 3) (hw : DoM w (.ref 8 :: (as ++ [.ref 193])) τ = some (.inl (some (.int (nQ k))), τ)) (hm : DoM m (.ref 186 :: as) (sB 7 τ 186 (rw_ τ 186)) = some (.inl (some (.int (nQ 0))), sB 7 τ 186 (thF (rw_ τ 186) k))) : StW L xs w m as τ := by
  rw [sB_rw] at hm
  exact ⟨τ, _, k, nQ 0, hw, hm, hk3, congrFun (rdf_in (u := 0) (b := 186) (by decide)) 0, fun z => absurd z hk, EqI_s _ _, RW_th h k⟩
theorem StW_Q (h : RW L xs τ) {w m : Nat} {as : List Value} {τ1 : Mem} {v : Int32} {D : Nat → Nat → Int32} (hc : ClQ τ τ1) (hw : DoM w (.ref 8 :: (as ++ [.ref 193])) τ = some (.inl (some (.int (nQ 0))), wrM τ1 193 0 v)) (hm : DoM m (.ref 186 :: as) (sB 7 (wrM τ1 193 0 v) 186 (rw_ τ 186)) = some (.inl (some (.int v)), sB 7 (wrM τ1 193 0 v) 186 D)) (hD : MdQ (rw_ τ 186) D) (h0 : D 0 0 = nQ 0) : StW L xs w m as τ := by
  rw [sB_rw2 (fun v h1 h2 => by rw [rdf_wr (by omega)]; exact hc.2.2.1 v (by omega))] at hm
  refine ⟨_, _, 0, v, hw, hm, by decide, (congrFun (rdf_in (u := 0) (b := 186) (by decide)) 0).trans h0, fun _ => ?_, EqI_s _ _, RW_q h hc hD v⟩
  rw [rdf_out (by omega)]
  exact rd_wr_s _ _ _ _
theorem RW_n (h : RW L xs τ) : ∃ n, RlC (rw_ τ 9) (rdM τ 187) (fun k => usF (rdM τ 187) (nQ (k / 2)) (k - k / 2 * 2) n) ∧ FlR (rw_ τ 9) (rdM τ 187) n ∧ InvF (rdM τ 187) n := by
  have := h.2.1
  obtain ⟨π, c, _, h0, _⟩ := this
  rw [bk_0] at h0
  exact h0
theorem Md_th (d : Nat → Nat → Int32) : MdQ d (thF d 0) := ⟨rfl, rfl, rfl, rfl, rfl⟩
theorem mx0 (x : Int32) : (if nQ 0 < x then x else nQ 0) = if x < nQ 0 then nQ 0 else x := by
  by_cases h1 : nQ 0 < x
  · rw [if_pos h1, if_neg (fun h2 => by
      rw [Int32.lt_iff_toInt_lt] at h1 h2
      omega)]
  · by_cases h2 : x < nQ 0
    · rw [if_neg h1, if_pos h2]
    · rw [if_neg h1, if_neg h2]
      apply Int32.toInt_inj.mp
      rw [Int32.lt_iff_toInt_lt] at h1 h2
      omega

theorem k2 {a r : Nat} (hr : r ≤ 1) : (2 * a + r) / 2 = a ∧ 2 * a + r - (2 * a + r) / 2 * 2 = r := by omega
theorem s61 (h : RW L xs τ) (v w : Int32) : StW L xs 204 157 [.int v, .int w] τ := by
  obtain ⟨n, hR, hF, hI⟩ := RW_n h
  have hM : ShM τ 186 := h.1.1.2.2.2
  have w1 : tkM τ 8 = (1, 4) := h.1.1.1.1
  have w2 : prM τ 8 0 = 9 := h.1.1.1.2.1
  have w0 : tkM τ 193 = (5, 1) := h.1.1.2.2.1.2.2.2.2.2.2.2.2.2
  have hs : ShS τ 9 := h.1.1.2.1.1
  by_cases hx : inP v (nQ 0) (nQ 8) ∧ inP w (nQ 0) (nQ 1)
  · obtain ⟨a, ha, rfl⟩ := in_ex hx.1 (by decide)
    obtain ⟨r, hr, rfl⟩ := in_ex hx.2 (by decide)
    have hc : DoM 61 [.ref 8, .int (nQ a), .int (nQ r)] τ = some (.inl (some (.int (usF (rdM τ 187) (nQ a) r n))), τ) := by
      have e : rdM τ (9 + 3) (2 * a + r) = usF (rdM τ 187) (nQ a) r n := by
        have := (hR.2.1 (2 * a + r) (by omega)).1
        dsimp only at this
        rw [(k2 hr).1, show 2 * a + r - a * 2 = r by omega] at this
        exact this
      refine (g61_0).trans ?_
      simp (disch := omega) only [aOk, eq_self, tk_sB, pr_sB, tk_wr, pr_wr, nQ_nat, nQ_neg, nQ_add, nQ_mul, nQ_lt, leF, ltT, ltF, rd_sB, rd_sB0, wr_sB, wr_sB0, cn_l, cn_r, Option.toList, List.cons_append, List.nil_append, if_true, if_false, true_and, and_true, or_false, false_or, true_or, or_true, not_false_eq_true, not_true_eq_false, and_false, false_and, zb_0, zb_1, q10, w1, w2, hs.2.1.1, hs.2.1.2.1, hs.2.1.2.2, hs.2.2.1.1, hs.2.2.1.2.1, hs.2.2.1.2.2.1, hs.2.2.1.2.2.2.1, hs.2.2.1.2.2.2.2.1, hs.2.2.1.2.2.2.2.2.1, hs.2.2.1.2.2.2.2.2.2.1, hs.2.2.1.2.2.2.2.2.2.2.1, hs.2.2.1.2.2.2.2.2.2.2.2, hs.2.2.2.1.1, hs.2.2.2.1.2.1, hs.2.2.2.1.2.2.1, hs.2.2.2.1.2.2.2, hs.2.2.2.2.1.1, hs.2.2.2.2.1.2.1, hs.2.2.2.2.1.2.2, hs.2.2.2.2.2.1.1, hs.2.2.2.2.2.1.2.1, hs.2.2.2.2.2.1.2.2.1, hs.2.2.2.2.2.1.2.2.2.1, hs.2.2.2.2.2.1.2.2.2.2.1, hs.2.2.2.2.2.1.2.2.2.2.2.1, hs.2.2.2.2.2.1.2.2.2.2.2.2, hs.2.2.2.2.2.2.1.1, hs.2.2.2.2.2.2.1.2.1, hs.2.2.2.2.2.2.1.2.2.1, hs.2.2.2.2.2.2.1.2.2.2, hs.2.2.2.2.2.2.2.1, hs.2.2.2.2.2.2.2.2.1, hs.2.2.2.2.2.2.2.2.2, le8 hs.1, c91, eq_true hx, e, g61_12]
    exact StW_Q h (Cl_rfl τ) (w204_r w1 w0 hc) (m157_0 (σ := wrM τ 193 0 _) (d := rw_ τ 186) hM hF.2.1 hF.2.2.1 (by omega) (by omega)) (Md_th _) rfl
  · refine StW_E h (k := 1) (by decide) (by decide) (w204_E1 w1 ?_) (m157_1 hM hx)
    refine (g61_0).trans ?_
    simp only [w1, w2, hs.2.1.1, hs.2.1.2.1, hs.2.1.2.2, hs.2.2.1.1, hs.2.2.1.2.1, hs.2.2.1.2.2.1, hs.2.2.1.2.2.2.1, hs.2.2.1.2.2.2.2.1, hs.2.2.1.2.2.2.2.2.1, hs.2.2.1.2.2.2.2.2.2.1, hs.2.2.1.2.2.2.2.2.2.2.1, hs.2.2.1.2.2.2.2.2.2.2.2, hs.2.2.2.1.1, hs.2.2.2.1.2.1, hs.2.2.2.1.2.2.1, hs.2.2.2.1.2.2.2, hs.2.2.2.2.1.1, hs.2.2.2.2.1.2.1, hs.2.2.2.2.1.2.2, hs.2.2.2.2.2.1.1, hs.2.2.2.2.2.1.2.1, hs.2.2.2.2.2.1.2.2.1, hs.2.2.2.2.2.1.2.2.2.1, hs.2.2.2.2.2.1.2.2.2.2.1, hs.2.2.2.2.2.1.2.2.2.2.2.1, hs.2.2.2.2.2.1.2.2.2.2.2.2, hs.2.2.2.2.2.2.1.1, hs.2.2.2.2.2.2.1.2.1, hs.2.2.2.2.2.2.1.2.2.1, hs.2.2.2.2.2.2.1.2.2.2, hs.2.2.2.2.2.2.2.1, hs.2.2.2.2.2.2.2.2.1, hs.2.2.2.2.2.2.2.2.2, le8 hs.1, if_true, c91, eq_false hx, if_false, cn_r]
theorem s62 (h : RW L xs τ) (v w : Int32) : StW L xs 205 158 [.int v, .int w] τ := by
  obtain ⟨n, hR, hF, hI⟩ := RW_n h
  have hM : ShM τ 186 := h.1.1.2.2.2
  have w1 : tkM τ 8 = (1, 4) := h.1.1.1.1
  have w2 : prM τ 8 0 = 9 := h.1.1.1.2.1
  have w0 : tkM τ 193 = (5, 1) := h.1.1.2.2.1.2.2.2.2.2.2.2.2.2
  have hs : ShS τ 9 := h.1.1.2.1.1
  by_cases hx : inP v (nQ 0) (nQ 8) ∧ inP w (nQ 0) (nQ 1)
  · obtain ⟨a, ha, rfl⟩ := in_ex hx.1 (by decide)
    obtain ⟨r, hr, rfl⟩ := in_ex hx.2 (by decide)
    have hc : DoM 62 [.ref 8, .int (nQ a), .int (nQ r)] τ = some (.inl (some (.int (usF (rdM τ 187) (nQ a) r n))), τ) := by
      have e := c10 (d := rw_ τ 9) hs hF.1 hF.2.2.1 (nQ a) (r := r) (by omega)
      rw [sB_rw, sm_perm _ hF.2.2.2, ← us_sm] at e
      refine (g62_0).trans ?_
      simp (disch := omega) only [aOk, eq_self, tk_sB, pr_sB, tk_wr, pr_wr, nQ_nat, nQ_neg, nQ_add, nQ_mul, nQ_lt, leF, ltT, ltF, rd_sB, rd_sB0, wr_sB, wr_sB0, cn_l, cn_r, Option.toList, List.cons_append, List.nil_append, if_true, if_false, true_and, and_true, or_false, false_or, true_or, or_true, not_false_eq_true, not_true_eq_false, and_false, false_and, zb_0, zb_1, q10, w1, w2, hs.2.1.1, hs.2.1.2.1, hs.2.1.2.2, hs.2.2.1.1, hs.2.2.1.2.1, hs.2.2.1.2.2.1, hs.2.2.1.2.2.2.1, hs.2.2.1.2.2.2.2.1, hs.2.2.1.2.2.2.2.2.1, hs.2.2.1.2.2.2.2.2.2.1, hs.2.2.1.2.2.2.2.2.2.2.1, hs.2.2.1.2.2.2.2.2.2.2.2, hs.2.2.2.1.1, hs.2.2.2.1.2.1, hs.2.2.2.1.2.2.1, hs.2.2.2.1.2.2.2, hs.2.2.2.2.1.1, hs.2.2.2.2.1.2.1, hs.2.2.2.2.1.2.2, hs.2.2.2.2.2.1.1, hs.2.2.2.2.2.1.2.1, hs.2.2.2.2.2.1.2.2.1, hs.2.2.2.2.2.1.2.2.2.1, hs.2.2.2.2.2.1.2.2.2.2.1, hs.2.2.2.2.2.1.2.2.2.2.2.1, hs.2.2.2.2.2.1.2.2.2.2.2.2, hs.2.2.2.2.2.2.1.1, hs.2.2.2.2.2.2.1.2.1, hs.2.2.2.2.2.2.1.2.2.1, hs.2.2.2.2.2.2.1.2.2.2, hs.2.2.2.2.2.2.2.1, hs.2.2.2.2.2.2.2.2.1, hs.2.2.2.2.2.2.2.2.2, le8 hs.1, c91, eq_true hx, e, g62_5, g62_18]
    exact StW_Q h (Cl_rfl τ) (w205_r w1 w0 hc) (m158_0 (σ := wrM τ 193 0 _) (d := rw_ τ 186) hM hF.2.1 hF.2.2.1 (by omega) (by omega)) (Md_th _) rfl
  · refine StW_E h (k := 1) (by decide) (by decide) (w205_E1 w1 ?_) (m158_1 hM hx)
    refine (g62_0).trans ?_
    simp only [w1, w2, hs.2.1.1, hs.2.1.2.1, hs.2.1.2.2, hs.2.2.1.1, hs.2.2.1.2.1, hs.2.2.1.2.2.1, hs.2.2.1.2.2.2.1, hs.2.2.1.2.2.2.2.1, hs.2.2.1.2.2.2.2.2.1, hs.2.2.1.2.2.2.2.2.2.1, hs.2.2.1.2.2.2.2.2.2.2.1, hs.2.2.1.2.2.2.2.2.2.2.2, hs.2.2.2.1.1, hs.2.2.2.1.2.1, hs.2.2.2.1.2.2.1, hs.2.2.2.1.2.2.2, hs.2.2.2.2.1.1, hs.2.2.2.2.1.2.1, hs.2.2.2.2.1.2.2, hs.2.2.2.2.2.1.1, hs.2.2.2.2.2.1.2.1, hs.2.2.2.2.2.1.2.2.1, hs.2.2.2.2.2.1.2.2.2.1, hs.2.2.2.2.2.1.2.2.2.2.1, hs.2.2.2.2.2.1.2.2.2.2.2.1, hs.2.2.2.2.2.1.2.2.2.2.2.2, hs.2.2.2.2.2.2.1.1, hs.2.2.2.2.2.2.1.2.1, hs.2.2.2.2.2.2.1.2.2.1, hs.2.2.2.2.2.2.1.2.2.2, hs.2.2.2.2.2.2.2.1, hs.2.2.2.2.2.2.2.2.1, hs.2.2.2.2.2.2.2.2.2, le8 hs.1, if_true, c91, eq_false hx, if_false, cn_r]
theorem s63 (h : RW L xs τ) (v w : Int32) : StW L xs 206 159 [.int v, .int w] τ := by
  obtain ⟨n, hR, hF, hI⟩ := RW_n h
  have hM : ShM τ 186 := h.1.1.2.2.2
  have w1 : tkM τ 8 = (1, 4) := h.1.1.1.1
  have w2 : prM τ 8 0 = 9 := h.1.1.1.2.1
  have w0 : tkM τ 193 = (5, 1) := h.1.1.2.2.1.2.2.2.2.2.2.2.2.2
  have hs : ShS τ 9 := h.1.1.2.1.1
  by_cases hx : inP v (nQ 0) (nQ 8) ∧ inP w (nQ 0) (nQ 1)
  · obtain ⟨a, ha, rfl⟩ := in_ex hx.1 (by decide)
    obtain ⟨r, hr, rfl⟩ := in_ex hx.2 (by decide)
    have hc : DoM 63 [.ref 8, .int (nQ a), .int (nQ r)] τ = some (.inl (some (.int (rdM τ 187 (245 + 2 * a + r)))), τ) := by
      have e : rdM τ (9 + 4) (2 * a + r) = rdM τ 187 (245 + 2 * a + r) := by
        have := (hR.2.1 (2 * a + r) (by omega)).2.1
        rw [show 245 + (2 * a + r) = 245 + 2 * a + r by omega] at this
        exact this
      refine (g63_0).trans ?_
      simp (disch := omega) only [aOk, eq_self, tk_sB, pr_sB, tk_wr, pr_wr, nQ_nat, nQ_neg, nQ_add, nQ_mul, nQ_lt, leF, ltT, ltF, rd_sB, rd_sB0, wr_sB, wr_sB0, cn_l, cn_r, Option.toList, List.cons_append, List.nil_append, if_true, if_false, true_and, and_true, or_false, false_or, true_or, or_true, not_false_eq_true, not_true_eq_false, and_false, false_and, zb_0, zb_1, q10, w1, w2, hs.2.1.1, hs.2.1.2.1, hs.2.1.2.2, hs.2.2.1.1, hs.2.2.1.2.1, hs.2.2.1.2.2.1, hs.2.2.1.2.2.2.1, hs.2.2.1.2.2.2.2.1, hs.2.2.1.2.2.2.2.2.1, hs.2.2.1.2.2.2.2.2.2.1, hs.2.2.1.2.2.2.2.2.2.2.1, hs.2.2.1.2.2.2.2.2.2.2.2, hs.2.2.2.1.1, hs.2.2.2.1.2.1, hs.2.2.2.1.2.2.1, hs.2.2.2.1.2.2.2, hs.2.2.2.2.1.1, hs.2.2.2.2.1.2.1, hs.2.2.2.2.1.2.2, hs.2.2.2.2.2.1.1, hs.2.2.2.2.2.1.2.1, hs.2.2.2.2.2.1.2.2.1, hs.2.2.2.2.2.1.2.2.2.1, hs.2.2.2.2.2.1.2.2.2.2.1, hs.2.2.2.2.2.1.2.2.2.2.2.1, hs.2.2.2.2.2.1.2.2.2.2.2.2, hs.2.2.2.2.2.2.1.1, hs.2.2.2.2.2.2.1.2.1, hs.2.2.2.2.2.2.1.2.2.1, hs.2.2.2.2.2.2.1.2.2.2, hs.2.2.2.2.2.2.2.1, hs.2.2.2.2.2.2.2.2.1, hs.2.2.2.2.2.2.2.2.2, le8 hs.1, c91, eq_true hx, e, g63_12]
    exact StW_Q h (Cl_rfl τ) (w206_r w1 w0 hc) (m159_0 (σ := wrM τ 193 0 _) (d := rw_ τ 186) hM (by omega) (by omega)) (Md_th _) rfl
  · refine StW_E h (k := 1) (by decide) (by decide) (w206_E1 w1 ?_) (m159_1 hM hx)
    refine (g63_0).trans ?_
    simp only [w1, w2, hs.2.1.1, hs.2.1.2.1, hs.2.1.2.2, hs.2.2.1.1, hs.2.2.1.2.1, hs.2.2.1.2.2.1, hs.2.2.1.2.2.2.1, hs.2.2.1.2.2.2.2.1, hs.2.2.1.2.2.2.2.2.1, hs.2.2.1.2.2.2.2.2.2.1, hs.2.2.1.2.2.2.2.2.2.2.1, hs.2.2.1.2.2.2.2.2.2.2.2, hs.2.2.2.1.1, hs.2.2.2.1.2.1, hs.2.2.2.1.2.2.1, hs.2.2.2.1.2.2.2, hs.2.2.2.2.1.1, hs.2.2.2.2.1.2.1, hs.2.2.2.2.1.2.2, hs.2.2.2.2.2.1.1, hs.2.2.2.2.2.1.2.1, hs.2.2.2.2.2.1.2.2.1, hs.2.2.2.2.2.1.2.2.2.1, hs.2.2.2.2.2.1.2.2.2.2.1, hs.2.2.2.2.2.1.2.2.2.2.2.1, hs.2.2.2.2.2.1.2.2.2.2.2.2, hs.2.2.2.2.2.2.1.1, hs.2.2.2.2.2.2.1.2.1, hs.2.2.2.2.2.2.1.2.2.1, hs.2.2.2.2.2.2.1.2.2.2, hs.2.2.2.2.2.2.2.1, hs.2.2.2.2.2.2.2.2.1, hs.2.2.2.2.2.2.2.2.2, le8 hs.1, if_true, c91, eq_false hx, if_false, cn_r]
theorem s64 (h : RW L xs τ) (v w : Int32) : StW L xs 207 160 [.int v, .int w] τ := by
  obtain ⟨n, hR, hF, hI⟩ := RW_n h
  have hM : ShM τ 186 := h.1.1.2.2.2
  have w1 : tkM τ 8 = (1, 4) := h.1.1.1.1
  have w2 : prM τ 8 0 = 9 := h.1.1.1.2.1
  have w0 : tkM τ 193 = (5, 1) := h.1.1.2.2.1.2.2.2.2.2.2.2.2.2
  have hs : ShS τ 9 := h.1.1.2.1.1
  by_cases hx : inP v (nQ 0) (nQ 8) ∧ inP w (nQ 0) (nQ 1)
  · obtain ⟨a, ha, rfl⟩ := in_ex hx.1 (by decide)
    obtain ⟨r, hr, rfl⟩ := in_ex hx.2 (by decide)
    have hc : DoM 64 [.ref 8, .int (nQ a), .int (nQ r)] τ = some (.inl (some (.int (rdM τ 187 (263 + 2 * a + r)))), τ) := by
      have e : rdM τ (9 + 5) (2 * a + r) = rdM τ 187 (263 + 2 * a + r) := by
        have := (hR.2.1 (2 * a + r) (by omega)).2.2.1
        rw [show 263 + (2 * a + r) = 263 + 2 * a + r by omega] at this
        exact this
      refine (g64_0).trans ?_
      simp (disch := omega) only [aOk, eq_self, tk_sB, pr_sB, tk_wr, pr_wr, nQ_nat, nQ_neg, nQ_add, nQ_mul, nQ_lt, leF, ltT, ltF, rd_sB, rd_sB0, wr_sB, wr_sB0, cn_l, cn_r, Option.toList, List.cons_append, List.nil_append, if_true, if_false, true_and, and_true, or_false, false_or, true_or, or_true, not_false_eq_true, not_true_eq_false, and_false, false_and, zb_0, zb_1, q10, w1, w2, hs.2.1.1, hs.2.1.2.1, hs.2.1.2.2, hs.2.2.1.1, hs.2.2.1.2.1, hs.2.2.1.2.2.1, hs.2.2.1.2.2.2.1, hs.2.2.1.2.2.2.2.1, hs.2.2.1.2.2.2.2.2.1, hs.2.2.1.2.2.2.2.2.2.1, hs.2.2.1.2.2.2.2.2.2.2.1, hs.2.2.1.2.2.2.2.2.2.2.2, hs.2.2.2.1.1, hs.2.2.2.1.2.1, hs.2.2.2.1.2.2.1, hs.2.2.2.1.2.2.2, hs.2.2.2.2.1.1, hs.2.2.2.2.1.2.1, hs.2.2.2.2.1.2.2, hs.2.2.2.2.2.1.1, hs.2.2.2.2.2.1.2.1, hs.2.2.2.2.2.1.2.2.1, hs.2.2.2.2.2.1.2.2.2.1, hs.2.2.2.2.2.1.2.2.2.2.1, hs.2.2.2.2.2.1.2.2.2.2.2.1, hs.2.2.2.2.2.1.2.2.2.2.2.2, hs.2.2.2.2.2.2.1.1, hs.2.2.2.2.2.2.1.2.1, hs.2.2.2.2.2.2.1.2.2.1, hs.2.2.2.2.2.2.1.2.2.2, hs.2.2.2.2.2.2.2.1, hs.2.2.2.2.2.2.2.2.1, hs.2.2.2.2.2.2.2.2.2, le8 hs.1, c91, eq_true hx, e, g64_12]
    exact StW_Q h (Cl_rfl τ) (w207_r w1 w0 hc) (m160_0 (σ := wrM τ 193 0 _) (d := rw_ τ 186) hM (by omega) (by omega)) (Md_th _) rfl
  · refine StW_E h (k := 1) (by decide) (by decide) (w207_E1 w1 ?_) (m160_1 hM hx)
    refine (g64_0).trans ?_
    simp only [w1, w2, hs.2.1.1, hs.2.1.2.1, hs.2.1.2.2, hs.2.2.1.1, hs.2.2.1.2.1, hs.2.2.1.2.2.1, hs.2.2.1.2.2.2.1, hs.2.2.1.2.2.2.2.1, hs.2.2.1.2.2.2.2.2.1, hs.2.2.1.2.2.2.2.2.2.1, hs.2.2.1.2.2.2.2.2.2.2.1, hs.2.2.1.2.2.2.2.2.2.2.2, hs.2.2.2.1.1, hs.2.2.2.1.2.1, hs.2.2.2.1.2.2.1, hs.2.2.2.1.2.2.2, hs.2.2.2.2.1.1, hs.2.2.2.2.1.2.1, hs.2.2.2.2.1.2.2, hs.2.2.2.2.2.1.1, hs.2.2.2.2.2.1.2.1, hs.2.2.2.2.2.1.2.2.1, hs.2.2.2.2.2.1.2.2.2.1, hs.2.2.2.2.2.1.2.2.2.2.1, hs.2.2.2.2.2.1.2.2.2.2.2.1, hs.2.2.2.2.2.1.2.2.2.2.2.2, hs.2.2.2.2.2.2.1.1, hs.2.2.2.2.2.2.1.2.1, hs.2.2.2.2.2.2.1.2.2.1, hs.2.2.2.2.2.2.1.2.2.2, hs.2.2.2.2.2.2.2.1, hs.2.2.2.2.2.2.2.2.1, hs.2.2.2.2.2.2.2.2.2, le8 hs.1, if_true, c91, eq_false hx, if_false, cn_r]
theorem s65 (h : RW L xs τ) (v w : Int32) : StW L xs 208 161 [.int v, .int w] τ := by
  obtain ⟨n, hR, hF, hI⟩ := RW_n h
  have hM : ShM τ 186 := h.1.1.2.2.2
  have w1 : tkM τ 8 = (1, 4) := h.1.1.1.1
  have w2 : prM τ 8 0 = 9 := h.1.1.1.2.1
  have w0 : tkM τ 193 = (5, 1) := h.1.1.2.2.1.2.2.2.2.2.2.2.2.2
  have hs : ShS τ 9 := h.1.1.2.1.1
  by_cases hx : inP v (nQ 0) (nQ 8) ∧ inP w (nQ 0) (nQ 1)
  · obtain ⟨a, ha, rfl⟩ := in_ex hx.1 (by decide)
    obtain ⟨r, hr, rfl⟩ := in_ex hx.2 (by decide)
    have hc : DoM 65 [.ref 8, .int (nQ a), .int (nQ r)] τ = some (.inl (some (.int (rdM τ 187 (281 + 2 * a + r)))), τ) := by
      have e : rdM τ (9 + 6) (2 * a + r) = rdM τ 187 (281 + 2 * a + r) := by
        have := (hR.2.1 (2 * a + r) (by omega)).2.2.2
        rw [show 281 + (2 * a + r) = 281 + 2 * a + r by omega] at this
        exact this
      refine (g65_0).trans ?_
      simp (disch := omega) only [aOk, eq_self, tk_sB, pr_sB, tk_wr, pr_wr, nQ_nat, nQ_neg, nQ_add, nQ_mul, nQ_lt, leF, ltT, ltF, rd_sB, rd_sB0, wr_sB, wr_sB0, cn_l, cn_r, Option.toList, List.cons_append, List.nil_append, if_true, if_false, true_and, and_true, or_false, false_or, true_or, or_true, not_false_eq_true, not_true_eq_false, and_false, false_and, zb_0, zb_1, q10, w1, w2, hs.2.1.1, hs.2.1.2.1, hs.2.1.2.2, hs.2.2.1.1, hs.2.2.1.2.1, hs.2.2.1.2.2.1, hs.2.2.1.2.2.2.1, hs.2.2.1.2.2.2.2.1, hs.2.2.1.2.2.2.2.2.1, hs.2.2.1.2.2.2.2.2.2.1, hs.2.2.1.2.2.2.2.2.2.2.1, hs.2.2.1.2.2.2.2.2.2.2.2, hs.2.2.2.1.1, hs.2.2.2.1.2.1, hs.2.2.2.1.2.2.1, hs.2.2.2.1.2.2.2, hs.2.2.2.2.1.1, hs.2.2.2.2.1.2.1, hs.2.2.2.2.1.2.2, hs.2.2.2.2.2.1.1, hs.2.2.2.2.2.1.2.1, hs.2.2.2.2.2.1.2.2.1, hs.2.2.2.2.2.1.2.2.2.1, hs.2.2.2.2.2.1.2.2.2.2.1, hs.2.2.2.2.2.1.2.2.2.2.2.1, hs.2.2.2.2.2.1.2.2.2.2.2.2, hs.2.2.2.2.2.2.1.1, hs.2.2.2.2.2.2.1.2.1, hs.2.2.2.2.2.2.1.2.2.1, hs.2.2.2.2.2.2.1.2.2.2, hs.2.2.2.2.2.2.2.1, hs.2.2.2.2.2.2.2.2.1, hs.2.2.2.2.2.2.2.2.2, le8 hs.1, c91, eq_true hx, e, g65_12]
    exact StW_Q h (Cl_rfl τ) (w208_r w1 w0 hc) (m161_0 (σ := wrM τ 193 0 _) (d := rw_ τ 186) hM (by omega) (by omega)) (Md_th _) rfl
  · refine StW_E h (k := 1) (by decide) (by decide) (w208_E1 w1 ?_) (m161_1 hM hx)
    refine (g65_0).trans ?_
    simp only [w1, w2, hs.2.1.1, hs.2.1.2.1, hs.2.1.2.2, hs.2.2.1.1, hs.2.2.1.2.1, hs.2.2.1.2.2.1, hs.2.2.1.2.2.2.1, hs.2.2.1.2.2.2.2.1, hs.2.2.1.2.2.2.2.2.1, hs.2.2.1.2.2.2.2.2.2.1, hs.2.2.1.2.2.2.2.2.2.2.1, hs.2.2.1.2.2.2.2.2.2.2.2, hs.2.2.2.1.1, hs.2.2.2.1.2.1, hs.2.2.2.1.2.2.1, hs.2.2.2.1.2.2.2, hs.2.2.2.2.1.1, hs.2.2.2.2.1.2.1, hs.2.2.2.2.1.2.2, hs.2.2.2.2.2.1.1, hs.2.2.2.2.2.1.2.1, hs.2.2.2.2.2.1.2.2.1, hs.2.2.2.2.2.1.2.2.2.1, hs.2.2.2.2.2.1.2.2.2.2.1, hs.2.2.2.2.2.1.2.2.2.2.2.1, hs.2.2.2.2.2.1.2.2.2.2.2.2, hs.2.2.2.2.2.2.1.1, hs.2.2.2.2.2.2.1.2.1, hs.2.2.2.2.2.2.1.2.2.1, hs.2.2.2.2.2.2.1.2.2.2, hs.2.2.2.2.2.2.2.1, hs.2.2.2.2.2.2.2.2.1, hs.2.2.2.2.2.2.2.2.2, le8 hs.1, if_true, c91, eq_false hx, if_false, cn_r]
theorem s66 (h : RW L xs τ) (v w : Int32) : StW L xs 209 162 [.int v, .int w] τ := by
  obtain ⟨n, hR, hF, hI⟩ := RW_n h
  have hM : ShM τ 186 := h.1.1.2.2.2
  have w1 : tkM τ 8 = (1, 4) := h.1.1.1.1
  have w2 : prM τ 8 0 = 9 := h.1.1.1.2.1
  have w0 : tkM τ 193 = (5, 1) := h.1.1.2.2.1.2.2.2.2.2.2.2.2.2
  have hs : ShS τ 9 := h.1.1.2.1.1
  by_cases hx : inP v (nQ 0) (nQ 8) ∧ inP w (nQ 0) (nQ 1)
  · obtain ⟨a, ha, rfl⟩ := in_ex hx.1 (by decide)
    obtain ⟨r, hr, rfl⟩ := in_ex hx.2 (by decide)
    have hc : DoM 66 [.ref 8, .int (nQ a), .int (nQ r)] τ = some (.inl (some (.int (glF (rdM τ 187) a r))), τ) := by
      have hk : 2 * a + r < 18 := by omega
      have r29 := c29 (d := rw_ τ 9) hs hR hk
      have r30 := c30 (d := rw_ τ 9) hs hR hk
      rw [sB_rw] at r29 r30
      have e1 : rdM τ (9 + 1) r = rdM τ 187 (1 + r) := hR.1.2.1 r (by omega)
      refine (g66_0).trans ?_
      unfold glF
      rw [show 281 + 2 * a + r = 281 + (2 * a + r) by omega]
      by_cases c1 : rdM τ 187 (281 + (2 * a + r)) = -1
      · simp (disch := omega) only [aOk, eq_self, tk_sB, pr_sB, tk_wr, pr_wr, nQ_nat, nQ_neg, nQ_add, nQ_mul, nQ_lt, leF, ltT, ltF, rd_sB, rd_sB0, wr_sB, wr_sB0, cn_l, cn_r, Option.toList, List.cons_append, List.nil_append, if_true, if_false, true_and, and_true, or_false, false_or, true_or, or_true, not_false_eq_true, not_true_eq_false, and_false, false_and, zb_0, zb_1, q10, w1, w2, hs.2.1.1, hs.2.1.2.1, hs.2.1.2.2, hs.2.2.1.1, hs.2.2.1.2.1, hs.2.2.1.2.2.1, hs.2.2.1.2.2.2.1, hs.2.2.1.2.2.2.2.1, hs.2.2.1.2.2.2.2.2.1, hs.2.2.1.2.2.2.2.2.2.1, hs.2.2.1.2.2.2.2.2.2.2.1, hs.2.2.1.2.2.2.2.2.2.2.2, hs.2.2.2.1.1, hs.2.2.2.1.2.1, hs.2.2.2.1.2.2.1, hs.2.2.2.1.2.2.2, hs.2.2.2.2.1.1, hs.2.2.2.2.1.2.1, hs.2.2.2.2.1.2.2, hs.2.2.2.2.2.1.1, hs.2.2.2.2.2.1.2.1, hs.2.2.2.2.2.1.2.2.1, hs.2.2.2.2.2.1.2.2.2.1, hs.2.2.2.2.2.1.2.2.2.2.1, hs.2.2.2.2.2.1.2.2.2.2.2.1, hs.2.2.2.2.2.1.2.2.2.2.2.2, hs.2.2.2.2.2.2.1.1, hs.2.2.2.2.2.2.1.2.1, hs.2.2.2.2.2.2.1.2.2.1, hs.2.2.2.2.2.2.1.2.2.2, hs.2.2.2.2.2.2.2.1, hs.2.2.2.2.2.2.2.2.1, hs.2.2.2.2.2.2.2.2.2, le8 hs.1, c91, eq_true hx, r29, c1, g66_5, g66_14, g66_37]
      · simp (disch := omega) only [aOk, eq_self, tk_sB, pr_sB, tk_wr, pr_wr, nQ_nat, nQ_neg, nQ_add, nQ_mul, nQ_lt, leF, ltT, ltF, rd_sB, rd_sB0, wr_sB, wr_sB0, cn_l, cn_r, Option.toList, List.cons_append, List.nil_append, if_true, if_false, true_and, and_true, or_false, false_or, true_or, or_true, not_false_eq_true, not_true_eq_false, and_false, false_and, zb_0, zb_1, q10, w1, w2, hs.2.1.1, hs.2.1.2.1, hs.2.1.2.2, hs.2.2.1.1, hs.2.2.1.2.1, hs.2.2.1.2.2.1, hs.2.2.1.2.2.2.1, hs.2.2.1.2.2.2.2.1, hs.2.2.1.2.2.2.2.2.1, hs.2.2.1.2.2.2.2.2.2.1, hs.2.2.1.2.2.2.2.2.2.2.1, hs.2.2.1.2.2.2.2.2.2.2.2, hs.2.2.2.1.1, hs.2.2.2.1.2.1, hs.2.2.2.1.2.2.1, hs.2.2.2.1.2.2.2, hs.2.2.2.2.1.1, hs.2.2.2.2.1.2.1, hs.2.2.2.2.1.2.2, hs.2.2.2.2.2.1.1, hs.2.2.2.2.2.1.2.1, hs.2.2.2.2.2.1.2.2.1, hs.2.2.2.2.2.1.2.2.2.1, hs.2.2.2.2.2.1.2.2.2.2.1, hs.2.2.2.2.2.1.2.2.2.2.2.1, hs.2.2.2.2.2.1.2.2.2.2.2.2, hs.2.2.2.2.2.2.1.1, hs.2.2.2.2.2.2.1.2.1, hs.2.2.2.2.2.2.1.2.2.1, hs.2.2.2.2.2.2.1.2.2.2, hs.2.2.2.2.2.2.2.1, hs.2.2.2.2.2.2.2.2.1, hs.2.2.2.2.2.2.2.2.2, le8 hs.1, c91, eq_true hx, r29, r30, e1, c1, q10, g66_5, g66_14, g66_37]
        rw [mx0]
    exact StW_Q h (Cl_rfl τ) (w209_r w1 w0 hc) (m162_0 (σ := wrM τ 193 0 _) (d := rw_ τ 186) hM (by omega) (by omega)) (Md_th _) rfl
  · refine StW_E h (k := 1) (by decide) (by decide) (w209_E1 w1 ?_) (m162_1 hM hx)
    refine (g66_0).trans ?_
    simp only [w1, w2, hs.2.1.1, hs.2.1.2.1, hs.2.1.2.2, hs.2.2.1.1, hs.2.2.1.2.1, hs.2.2.1.2.2.1, hs.2.2.1.2.2.2.1, hs.2.2.1.2.2.2.2.1, hs.2.2.1.2.2.2.2.2.1, hs.2.2.1.2.2.2.2.2.2.1, hs.2.2.1.2.2.2.2.2.2.2.1, hs.2.2.1.2.2.2.2.2.2.2.2, hs.2.2.2.1.1, hs.2.2.2.1.2.1, hs.2.2.2.1.2.2.1, hs.2.2.2.1.2.2.2, hs.2.2.2.2.1.1, hs.2.2.2.2.1.2.1, hs.2.2.2.2.1.2.2, hs.2.2.2.2.2.1.1, hs.2.2.2.2.2.1.2.1, hs.2.2.2.2.2.1.2.2.1, hs.2.2.2.2.2.1.2.2.2.1, hs.2.2.2.2.2.1.2.2.2.2.1, hs.2.2.2.2.2.1.2.2.2.2.2.1, hs.2.2.2.2.2.1.2.2.2.2.2.2, hs.2.2.2.2.2.2.1.1, hs.2.2.2.2.2.2.1.2.1, hs.2.2.2.2.2.2.1.2.2.1, hs.2.2.2.2.2.2.1.2.2.2, hs.2.2.2.2.2.2.2.1, hs.2.2.2.2.2.2.2.2.1, hs.2.2.2.2.2.2.2.2.2, le8 hs.1, if_true, c91, eq_false hx, if_false, cn_r]
theorem lt_sub {s : Nat} {u : Int32} (hs : s ≤ 100000) (h : nQ s < u) : ¬ nQ 0 < nQ s - u := by
  rw [Int32.lt_iff_toInt_lt, nQ_int (by omega)] at h
  rw [Int32.lt_iff_toInt_lt, Int32.toInt_sub, nQ_int (by omega), nQ_int (by omega)]
  have := u.toInt_lt
  rw [Int.bmod_eq_of_le (by omega) (by omega)]
  omega
theorem c25 {σ : Mem} {b : Nat} {d : Nat → Nat → Int32} {f U : Nat → Int32} (h : ShS σ b) (hR : RlC d f U) {k s z : Nat} (hk : k < 18) (hs : s ≤ 100000) (hz : z ≤ 100000) (es : f (245 + k) = nQ s) (ez : f (263 + k) = nQ z) (hr : ¬ f (281 + k) = -1 → f (245 + k) < U k) : DoM 25 [.ref b, .int (nQ k)] (sB 17 σ b d) = some (.inl (some (.int (if ovF f (f (281 + k)) (f 0) (k - k / 2 * 2) then nQ 0 else if f (263 + k) = nQ 0 then -2 else if f (263 + k) - U k < nQ 0 then nQ 0 else f (263 + k) - U k))), sB 17 σ b d) := by
  obtain ⟨h8, ⟨k0, k8, k13⟩, ⟨p1, p2, p3, p4, p5, p6, p7, p8, p9⟩, ⟨q1, q2, q3, q4⟩, ⟨e2, e3, e4⟩, ⟨t1, t2, t3, t4, t5, t6, t7⟩, ⟨t9, t10, t11, t12⟩, ⟨t14, t15, t16⟩⟩ := id h
  obtain ⟨a1, a2, a3, a4⟩ := hR.2.1 k hk
  rw [es] at a2
  rw [ez] at a3
  rw [ez]
  have r31 := c31 h hR hk
  refine (g25_0).trans ?_
  rcases Classical.propComplete (ovF f (f (281 + k)) (f 0) (k - k / 2 * 2)) with w1 | w1
  · have hr := hr (of_eq_true w1).1
    rw [es] at hr
    have n1 := eq_false (lt_sub hs hr)
    have ez0 : (nQ z = nQ 0) = (z = 0) := nQ_eq (by omega) (by decide)
    rcases Classical.propComplete (z = 0) with w2 | w2
    · rcases Classical.propComplete (s < 100000) with w3 | w3
      · simp (disch := omega) only [aOk, eq_self, tk_sB, pr_sB, tk_wr, pr_wr, nQ_nat, nQ_neg, nQ_add, nQ_mul, nQ_lt, leF, ltT, ltF, rd_sB, rd_sB0, wr_sB, wr_sB0, cn_l, cn_r, Option.toList, List.cons_append, List.nil_append, if_true, if_false, true_and, and_true, or_false, false_or, true_or, or_true, not_false_eq_true, not_true_eq_false, and_false, false_and, zb_0, zb_1, q10, k0, k8, k13, p1, p2, p3, p4, p5, p6, p7, p8, p9, q1, q2, q3, q4, e2, e3, e4, t1, t2, t3, t4, t5, t6, t7, t9, t10, t11, t12, t14, t15, t16, le8 h8, a1, a2, a3, r31, w1, ez0, w2, w3, n1, q10, g25_5, g25_22, g25_41, g25_56]
      · have e5 : s = 100000 := by have := of_eq_false w3; omega
        rw [e5] at n1
        simp (disch := omega) only [aOk, eq_self, tk_sB, pr_sB, tk_wr, pr_wr, nQ_nat, nQ_neg, nQ_add, nQ_mul, nQ_lt, leF, ltT, ltF, rd_sB, rd_sB0, wr_sB, wr_sB0, cn_l, cn_r, Option.toList, List.cons_append, List.nil_append, if_true, if_false, true_and, and_true, or_false, false_or, true_or, or_true, not_false_eq_true, not_true_eq_false, and_false, false_and, zb_0, zb_1, q10, k0, k8, k13, p1, p2, p3, p4, p5, p6, p7, p8, p9, q1, q2, q3, q4, e2, e3, e4, t1, t2, t3, t4, t5, t6, t7, t9, t10, t11, t12, t14, t15, t16, le8 h8, a1, a2, a3, r31, w1, ez0, w2, w3, n1, q10, g25_5, g25_22, g25_41, g25_56]
    · rcases Classical.propComplete (s < z) with w3 | w3
      · simp (disch := omega) only [aOk, eq_self, tk_sB, pr_sB, tk_wr, pr_wr, nQ_nat, nQ_neg, nQ_add, nQ_mul, nQ_lt, leF, ltT, ltF, rd_sB, rd_sB0, wr_sB, wr_sB0, cn_l, cn_r, Option.toList, List.cons_append, List.nil_append, if_true, if_false, true_and, and_true, or_false, false_or, true_or, or_true, not_false_eq_true, not_true_eq_false, and_false, false_and, zb_0, zb_1, q10, k0, k8, k13, p1, p2, p3, p4, p5, p6, p7, p8, p9, q1, q2, q3, q4, e2, e3, e4, t1, t2, t3, t4, t5, t6, t7, t9, t10, t11, t12, t14, t15, t16, le8 h8, a1, a2, a3, r31, w1, ez0, w2, w3, n1, q10, g25_5, g25_22, g25_41, g25_56]
      · have hz2 : nQ z < U k := by
          rw [Int32.lt_iff_toInt_lt, nQ_int (by omega)] at hr ⊢
          have := of_eq_false w3
          omega
        have n2 := eq_false (lt_sub hz hz2)
        simp (disch := omega) only [aOk, eq_self, tk_sB, pr_sB, tk_wr, pr_wr, nQ_nat, nQ_neg, nQ_add, nQ_mul, nQ_lt, leF, ltT, ltF, rd_sB, rd_sB0, wr_sB, wr_sB0, cn_l, cn_r, Option.toList, List.cons_append, List.nil_append, if_true, if_false, true_and, and_true, or_false, false_or, true_or, or_true, not_false_eq_true, not_true_eq_false, and_false, false_and, zb_0, zb_1, q10, k0, k8, k13, p1, p2, p3, p4, p5, p6, p7, p8, p9, q1, q2, q3, q4, e2, e3, e4, t1, t2, t3, t4, t5, t6, t7, t9, t10, t11, t12, t14, t15, t16, le8 h8, a1, a2, a3, r31, w1, ez0, w2, w3, n1, n2, q10, g25_5, g25_22, g25_41, g25_56]
  · by_cases w2 : nQ z = nQ 0
    · simp (disch := omega) only [aOk, eq_self, tk_sB, pr_sB, tk_wr, pr_wr, nQ_nat, nQ_neg, nQ_add, nQ_mul, nQ_lt, leF, ltT, ltF, rd_sB, rd_sB0, wr_sB, wr_sB0, cn_l, cn_r, Option.toList, List.cons_append, List.nil_append, if_true, if_false, true_and, and_true, or_false, false_or, true_or, or_true, not_false_eq_true, not_true_eq_false, and_false, false_and, zb_0, zb_1, q10, k0, k8, k13, p1, p2, p3, p4, p5, p6, p7, p8, p9, q1, q2, q3, q4, e2, e3, e4, t1, t2, t3, t4, t5, t6, t7, t9, t10, t11, t12, t14, t15, t16, le8 h8, a1, a2, a3, r31, w1, w2, q10, g25_5, g25_22, g25_41, g25_56]
    · simp (disch := omega) only [aOk, eq_self, tk_sB, pr_sB, tk_wr, pr_wr, nQ_nat, nQ_neg, nQ_add, nQ_mul, nQ_lt, leF, ltT, ltF, rd_sB, rd_sB0, wr_sB, wr_sB0, cn_l, cn_r, Option.toList, List.cons_append, List.nil_append, if_true, if_false, true_and, and_true, or_false, false_or, true_or, or_true, not_false_eq_true, not_true_eq_false, and_false, false_and, zb_0, zb_1, q10, k0, k8, k13, p1, p2, p3, p4, p5, p6, p7, p8, p9, q1, q2, q3, q4, e2, e3, e4, t1, t2, t3, t4, t5, t6, t7, t9, t10, t11, t12, t14, t15, t16, le8 h8, a1, a2, a3, r31, w1, w2, q10, g25_5, g25_22, g25_41, g25_56]
      rw [mx0]
theorem s67 (h : RW L xs τ) (v w : Int32) : StW L xs 210 163 [.int v, .int w] τ := by
  obtain ⟨n, hR, hF, hI⟩ := RW_n h
  have hM : ShM τ 186 := h.1.1.2.2.2
  have w1 : tkM τ 8 = (1, 4) := h.1.1.1.1
  have w2 : prM τ 8 0 = 9 := h.1.1.1.2.1
  have w0 : tkM τ 193 = (5, 1) := h.1.1.2.2.1.2.2.2.2.2.2.2.2.2
  have hs : ShS τ 9 := h.1.1.2.1.1
  by_cases hx : inP v (nQ 0) (nQ 8) ∧ inP w (nQ 0) (nQ 1)
  · obtain ⟨a, ha, rfl⟩ := in_ex hx.1 (by decide)
    obtain ⟨r, hr, rfl⟩ := in_ex hx.2 (by decide)
    have hc : DoM 67 [.ref 8, .int (nQ a), .int (nQ r)] τ = some (.inl (some (.int (avF (rdM τ 187) n a r))), τ) := by
      have hk : 2 * a + r < 18 := by omega
      obtain ⟨s, z, hs1, hz1, es, ez⟩ := hI.1.2.2.2 (2 * a + r) hk
      have r25 := c25 (d := rw_ τ 9) hs hR hk hs1 hz1 es ez (fun z => (hI.2 (2 * a + r) hk z).2)
      rw [sB_rw] at r25
      rw [(k2 hr).1, show 2 * a + r - a * 2 = r by omega] at r25
      refine (g67_0).trans ?_
      unfold avF
      simp (disch := omega) only [aOk, eq_self, tk_sB, pr_sB, tk_wr, pr_wr, nQ_nat, nQ_neg, nQ_add, nQ_mul, nQ_lt, leF, ltT, ltF, rd_sB, rd_sB0, wr_sB, wr_sB0, cn_l, cn_r, Option.toList, List.cons_append, List.nil_append, if_true, if_false, true_and, and_true, or_false, false_or, true_or, or_true, not_false_eq_true, not_true_eq_false, and_false, false_and, zb_0, zb_1, q10, w1, w2, hs.2.1.1, hs.2.1.2.1, hs.2.1.2.2, hs.2.2.1.1, hs.2.2.1.2.1, hs.2.2.1.2.2.1, hs.2.2.1.2.2.2.1, hs.2.2.1.2.2.2.2.1, hs.2.2.1.2.2.2.2.2.1, hs.2.2.1.2.2.2.2.2.2.1, hs.2.2.1.2.2.2.2.2.2.2.1, hs.2.2.1.2.2.2.2.2.2.2.2, hs.2.2.2.1.1, hs.2.2.2.1.2.1, hs.2.2.2.1.2.2.1, hs.2.2.2.1.2.2.2, hs.2.2.2.2.1.1, hs.2.2.2.2.1.2.1, hs.2.2.2.2.1.2.2, hs.2.2.2.2.2.1.1, hs.2.2.2.2.2.1.2.1, hs.2.2.2.2.2.1.2.2.1, hs.2.2.2.2.2.1.2.2.2.1, hs.2.2.2.2.2.1.2.2.2.2.1, hs.2.2.2.2.2.1.2.2.2.2.2.1, hs.2.2.2.2.2.1.2.2.2.2.2.2, hs.2.2.2.2.2.2.1.1, hs.2.2.2.2.2.2.1.2.1, hs.2.2.2.2.2.2.1.2.2.1, hs.2.2.2.2.2.2.1.2.2.2, hs.2.2.2.2.2.2.2.1, hs.2.2.2.2.2.2.2.2.1, hs.2.2.2.2.2.2.2.2.2, le8 hs.1, c91, eq_true hx, r25, g67_9, g67_12]
    exact StW_Q h (Cl_rfl τ) (w210_r w1 w0 hc) (m163_0 (σ := wrM τ 193 0 _) (d := rw_ τ 186) hM hF.2.1 hF.2.2.1 (by omega) (by omega)) (Md_th _) rfl
  · refine StW_E h (k := 1) (by decide) (by decide) (w210_E1 w1 ?_) (m163_1 hM hx)
    refine (g67_0).trans ?_
    simp only [w1, w2, hs.2.1.1, hs.2.1.2.1, hs.2.1.2.2, hs.2.2.1.1, hs.2.2.1.2.1, hs.2.2.1.2.2.1, hs.2.2.1.2.2.2.1, hs.2.2.1.2.2.2.2.1, hs.2.2.1.2.2.2.2.2.1, hs.2.2.1.2.2.2.2.2.2.1, hs.2.2.1.2.2.2.2.2.2.2.1, hs.2.2.1.2.2.2.2.2.2.2.2, hs.2.2.2.1.1, hs.2.2.2.1.2.1, hs.2.2.2.1.2.2.1, hs.2.2.2.1.2.2.2, hs.2.2.2.2.1.1, hs.2.2.2.2.1.2.1, hs.2.2.2.2.1.2.2, hs.2.2.2.2.2.1.1, hs.2.2.2.2.2.1.2.1, hs.2.2.2.2.2.1.2.2.1, hs.2.2.2.2.2.1.2.2.2.1, hs.2.2.2.2.2.1.2.2.2.2.1, hs.2.2.2.2.2.1.2.2.2.2.2.1, hs.2.2.2.2.2.1.2.2.2.2.2.2, hs.2.2.2.2.2.2.1.1, hs.2.2.2.2.2.2.1.2.1, hs.2.2.2.2.2.2.1.2.2.1, hs.2.2.2.2.2.2.1.2.2.2, hs.2.2.2.2.2.2.2.1, hs.2.2.2.2.2.2.2.2.1, hs.2.2.2.2.2.2.2.2.2, le8 hs.1, if_true, c91, eq_false hx, if_false, cn_r]
end Qu
