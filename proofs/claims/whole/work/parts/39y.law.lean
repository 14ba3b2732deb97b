/-! law: its commands, one by one, and its loop. -/
theorem lg_r (x : Int64) : lg_cmp x x = nQ 0 := by
  unfold lg_cmp
  simp
  rfl
theorem lg_0 : lg_cmp (nQ 0).toInt64 0 = nQ 0 := by decide
theorem lg_1 : lg_cmp (nQ 1).toInt64 1 = nQ 0 := by decide
theorem o1_r (r : Nat) : isOne (.ref r) = true := rfl
theorem o1_i (x : Int32) : isOne (.int x) = true := rfl
theorem cnd_l {L i : Nat} (hL : L ≤ 3072) (hi : i ≤ 4000) : (nQ L - nQ 6 < nQ i) = (L < i + 6) := by
  rw [Int32.lt_iff_toInt_lt, Int32.toInt_sub, nQ_int (by omega), nQ_int (by decide), nQ_int (by omega), Int.bmod_eq_of_le (by omega) (by omega)]
  exact propext ⟨fun h => by omega, fun h => by omega⟩
abbrev lsL (i : Nat) (o5 o6 : Option Value) : List (Option Value) := [some (.ref 1), some (.ref 8), some (.ref 186), some (.ref 193), some (.int (nQ i)), o5, o6]
def NxP (L : Nat) (xs : Nat → Int32) (τ : Mem) (i kc ks : Nat) (o5 o6 : Option Value) : Prop := ∃ τ' kc' ks' p5 p6, kc' ≤ kc + 6 ∧ ks' ≤ ks + 36 ∧ RW L xs τ' ∧ RuM 223 (23, lsL i o5 o6, [], kc, ks) τ = RuM 223 (2560, lsL i p5 p6, [], kc', ks') τ'
theorem d105 {τ : Mem} {x : Int32} (h : tkM τ 186 = (1, 5)) (hx : rdM τ 186 0 = x) : DoM 105 [.ref 186] τ = some (.inl (some (.int x)), τ) := by
  refine (g105_0).trans ?_
  rw [if_pos h, hx]
section Ya
variable {L : Nat} {xs : Nat → Int32} {τ : Mem} {i kc ks : Nat} {o5 o6 : Option Value}
def StB (L : Nat) (xs : Nat → Int32) (w m : Nat) (as : List Value) (τ : Mem) : Prop := ∃ τ1 τ2 k v, DoM w (.ref 8 :: (as ++ [.ref 193])) τ = some (.inl (some (.int (nQ k))), τ1) ∧ DoM m (.ref 186 :: as) τ1 = some (.inl (some (.int v)), τ2) ∧ k ≤ 3 ∧ rdM τ2 186 0 = nQ k ∧ (k = 0 → rdM τ2 193 0 = v) ∧ EqI τ1 τ2 ∧ RW L xs τ2 ∧ (v = nQ 0 ∨ v = nQ 1)
theorem StB_E (h : RW L xs τ) {w m k : Nat} {as : List Value} (hk : ¬ k = 0) (hk3 : k ≤ 3) (hw : DoM w (.ref 8 :: (as ++ [.ref 193])) τ = some (.inl (some (.int (nQ k))), τ)) (hm : DoM m (.ref 186 :: as) (sB 7 τ 186 (rw_ τ 186)) = some (.inl (some (.int (nQ 0))), sB 7 τ 186 (thF (rw_ τ 186) k))) : StB L xs w m as τ := by
  rw [sB_rw] at hm
  exact ⟨τ, _, k, nQ 0, hw, hm, hk3, congrFun (rdf_in (u := 0) (b := 186) (by decide)) 0, fun z => absurd z hk, EqI_s _ _, RW_th h k, Or.inl rfl⟩
theorem StB_Q (h : RW L xs τ) {w m : Nat} {as : List Value} {τ1 : Mem} {v : Int32} {D : Nat → Nat → Int32} (hv : v = nQ 0 ∨ v = nQ 1) (hc : ClQ τ τ1) (hw : DoM w (.ref 8 :: (as ++ [.ref 193])) τ = some (.inl (some (.int (nQ 0))), wrM τ1 193 0 v)) (hm : DoM m (.ref 186 :: as) (sB 7 (wrM τ1 193 0 v) 186 (rw_ τ 186)) = some (.inl (some (.int v)), sB 7 (wrM τ1 193 0 v) 186 D)) (hD : MdQ (rw_ τ 186) D) (h0 : D 0 0 = nQ 0) : StB L xs w m as τ := by
  rw [sB_rw2 (fun v h1 h2 => by rw [rdf_wr (by omega)]; exact hc.2.2.1 v (by omega))] at hm
  refine ⟨_, _, 0, v, hw, hm, by decide, (congrFun (rdf_in (u := 0) (b := 186) (by decide)) 0).trans h0, fun _ => ?_, EqI_s _ _, RW_q h hc hD v, hv⟩
  rw [rdf_out (by omega)]
  exact rd_wr_s _ _ _ _
theorem s80b (h : RW L xs τ) (v : Int32) : StB L xs 221 182 [.int v] τ := by
  obtain ⟨n, hR, hF, hI⟩ := RW_n h
  have hM : ShM τ 186 := h.1.1.2.2.2
  have w1 : tkM τ 8 = (1, 4) := h.1.1.1.1
  have w2 : prM τ 8 0 = 9 := h.1.1.1.2.1
  have w0 : tkM τ 193 = (5, 1) := h.1.1.2.2.1.2.2.2.2.2.2.2.2.2
  have hs : ShS τ 9 := h.1.1.2.1.1
  by_cases hx : inP v (nQ 0) (nQ 5)
  · obtain ⟨a, ha, rfl⟩ := in_ex hx (by decide)
    have hc : DoM 80 [.ref 8, .int (nQ a)] τ = some (.inl (some (.int (if frF (rdM τ 187) a then nQ 1 else nQ 0))), τ) := by
      have e : rdM τ (9 + 2) a = if frF (rdM τ 187) a then nQ 1 else nQ 0 := hR.1.2.2 a (by omega)
      refine (g80_0).trans ?_
      rcases Classical.propComplete (frF (rdM τ 187) a) with c1 | c1 <;> simp (disch := omega) only [aOk, eq_self, tk_sB, pr_sB, tk_wr, pr_wr, nQ_nat, nQ_neg, nQ_add, nQ_mul, nQ_lt, leF, ltT, ltF, rd_sB, rd_sB0, wr_sB, wr_sB0, cn_l, cn_r, Option.toList, List.cons_append, List.nil_append, if_true, if_false, true_and, and_true, or_false, false_or, true_or, or_true, not_false_eq_true, not_true_eq_false, and_false, false_and, zb_0, zb_1, q10, w1, w2, hs.2.1.1, hs.2.1.2.1, hs.2.1.2.2, hs.2.2.1.1, hs.2.2.1.2.1, hs.2.2.1.2.2.1, hs.2.2.1.2.2.2.1, hs.2.2.1.2.2.2.2.1, hs.2.2.1.2.2.2.2.2.1, hs.2.2.1.2.2.2.2.2.2.1, hs.2.2.1.2.2.2.2.2.2.2.1, hs.2.2.1.2.2.2.2.2.2.2.2, hs.2.2.2.1.1, hs.2.2.2.1.2.1, hs.2.2.2.1.2.2.1, hs.2.2.2.1.2.2.2, hs.2.2.2.2.1.1, hs.2.2.2.2.1.2.1, hs.2.2.2.2.1.2.2, hs.2.2.2.2.2.1.1, hs.2.2.2.2.2.1.2.1, hs.2.2.2.2.2.1.2.2.1, hs.2.2.2.2.2.1.2.2.2.1, hs.2.2.2.2.2.1.2.2.2.2.1, hs.2.2.2.2.2.1.2.2.2.2.2.1, hs.2.2.2.2.2.1.2.2.2.2.2.2, hs.2.2.2.2.2.2.1.1, hs.2.2.2.2.2.2.1.2.1, hs.2.2.2.2.2.2.1.2.2.1, hs.2.2.2.2.2.2.1.2.2.2, hs.2.2.2.2.2.2.2.1, hs.2.2.2.2.2.2.2.2.1, hs.2.2.2.2.2.2.2.2.2, le8 hs.1, c87, eq_true hx, e, c1, g80_4]
    exact StB_Q h (by split <;> first | exact Or.inr rfl | exact Or.inl rfl) (Cl_rfl τ) (w221_r w1 w0 (by split <;> first | exact Or.inr rfl | exact Or.inl rfl) hc) (m182_0 (σ := wrM τ 193 0 _) (d := rw_ τ 186) hM (by omega)) (Md_th _) rfl
  · refine StB_E h (k := 1) (by decide) (by decide) (w221_E1 w1 ?_) (m182_1 hM hx)
    refine (g80_0).trans ?_
    simp only [c87, eq_false hx, if_false, cn_r]
theorem op_0 (h : RW L xs τ) (hL : L ≤ 3072) (hi : i + 6 ≤ L) (hkc : kc ≤ 500000) (hks : ks ≤ 7000000) (hop : xs i &&& nQ 63 = nQ 0) : NxP L xs τ i kc ks o5 o6 := by
  have t1 : tkM τ 1 = (2, L) := h.1.2.1.1
  have x1 : ∀ j, rdM τ 1 j = xs j := h.1.2.1.2
  have hw : rdM τ 1 (nQ i).toNatClampNeg = xs i := by rw [nQ_nat (by omega), x1]
  have a0 : aOk 2 τ 1 (nQ i) := by
    simp (disch := omega) only [aOk, t1, nQ_neg, nQ_nat, leF, or_false, not_false_eq_true, and_true]
  have n0 : ¬ (nQ (tkM τ 1).2 - nQ 6 < nQ i) := by
    rw [t1, cnd_l hL (by omega)]
    omega
  have cj : ∀ j, j < 0 → ¬ rdM τ 1 (nQ i).toNatClampNeg &&& nQ 63 = nQ j := fun j hj => by
    rw [hw, hop, nQ_eq (by omega) (by omega)]
    omega
  have b1 : kc + 6 ≤ 601024 := by omega
  have b2 : ks + 36 ≤ 7293034 := by omega
  obtain ⟨τ1, τ2, k, v, e1, e2, hk3, hk, hv, hE, hR⟩ := s45 h (xs (i + 1)) (xs (i + 2)) (xs (i + 3)) (xs (i + 4)) (xs (i + 5))
  simp only [List.cons_append, List.nil_append] at e1
  have q1 : tkM τ1 1 = (2, L) := by
    rw [← hE.1]
    exact hR.1.2.1.1
  have q2 : ∀ j, rdM τ1 1 j = xs j := fun j => by
    rw [← hE.2 1 (by decide)]
    exact hR.1.2.1.2 j
  have m2 : tkM τ2 186 = (1, 5) := hR.1.1.2.2.2.2.1
  have m1 : tkM τ1 186 = (1, 5) := by
    rw [← hE.1]
    exact m2
  have m3 : tkM τ2 193 = (5, 1) := hR.1.1.2.2.1.2.2.2.2.2.2.2.2.2
  have e3 := d105 m2 hk
  refine ⟨τ2, kc + 6, ks + 36, some (.int (nQ k)), some (.int v), by omega, by omega, hR, ?_⟩
  refine (g223_23).trans ?_
  refine (if_pos (show (tkM τ 1).1 = 2 from congrArg (·.1) t1)).trans ?_
  refine (if_neg n0).trans ?_
  refine (if_pos a0).trans ?_
  refine (if_pos (show rdM τ 1 (nQ i).toNatClampNeg &&& nQ 63 = nQ 0 by rw [hw, hop])).trans ?_
  by_cases c : k = 0
  · have hv0 := hv c
    subst c
    simp (disch := omega) only [aOk, eq_self, nQ_nat, nQ_neg, nQ_add, leF, cn_l, Option.toList, List.cons_append, List.nil_append, if_true, if_false, true_and, and_true, or_false, false_or, not_false_eq_true, List.all_cons, List.all_nil, o1_r, o1_i, Bool.and_self, Bool.and_true, Nat.le_refl, Nat.zero_le, t1, x1, b1, b2, e1, q1, q2, m1, m2, m3, e2, e3, hv0, lg_r, g223_259, g223_295, g223_301, g223_325]
  · have c0 : (nQ k = nQ 0) = False := by rw [nQ_eq (by omega) (by decide)]; exact eq_false c
    simp (disch := omega) only [aOk, eq_self, nQ_nat, nQ_neg, nQ_add, leF, cn_l, Option.toList, List.cons_append, List.nil_append, if_true, if_false, true_and, and_true, or_false, false_or, not_false_eq_true, List.all_cons, List.all_nil, o1_r, o1_i, Bool.and_self, Bool.and_true, Nat.le_refl, Nat.zero_le, t1, x1, b1, b2, e1, q1, q2, m1, m2, m3, e2, e3, c0, g223_259, g223_295, g223_301, g223_325]
theorem op_1 (h : RW L xs τ) (hL : L ≤ 3072) (hi : i + 6 ≤ L) (hkc : kc ≤ 500000) (hks : ks ≤ 7000000) (hop : xs i &&& nQ 63 = nQ 1) : NxP L xs τ i kc ks o5 o6 := by
  have t1 : tkM τ 1 = (2, L) := h.1.2.1.1
  have x1 : ∀ j, rdM τ 1 j = xs j := h.1.2.1.2
  have hw : rdM τ 1 (nQ i).toNatClampNeg = xs i := by rw [nQ_nat (by omega), x1]
  have a0 : aOk 2 τ 1 (nQ i) := by
    simp (disch := omega) only [aOk, t1, nQ_neg, nQ_nat, leF, or_false, not_false_eq_true, and_true]
  have n0 : ¬ (nQ (tkM τ 1).2 - nQ 6 < nQ i) := by
    rw [t1, cnd_l hL (by omega)]
    omega
  have cj : ∀ j, j < 1 → ¬ rdM τ 1 (nQ i).toNatClampNeg &&& nQ 63 = nQ j := fun j hj => by
    rw [hw, hop, nQ_eq (by omega) (by omega)]
    omega
  have b1 : kc + 4 ≤ 601024 := by omega
  have b2 : ks + 24 ≤ 7293034 := by omega
  obtain ⟨τ1, τ2, k, v, e1, e2, hk3, hk, hv, hE, hR⟩ := s46 h (xs (i + 1)) (xs (i + 2)) (xs (i + 3))
  simp only [List.cons_append, List.nil_append] at e1
  have q1 : tkM τ1 1 = (2, L) := by
    rw [← hE.1]
    exact hR.1.2.1.1
  have q2 : ∀ j, rdM τ1 1 j = xs j := fun j => by
    rw [← hE.2 1 (by decide)]
    exact hR.1.2.1.2 j
  have m2 : tkM τ2 186 = (1, 5) := hR.1.1.2.2.2.2.1
  have m1 : tkM τ1 186 = (1, 5) := by
    rw [← hE.1]
    exact m2
  have m3 : tkM τ2 193 = (5, 1) := hR.1.1.2.2.1.2.2.2.2.2.2.2.2.2
  have e3 := d105 m2 hk
  refine ⟨τ2, kc + 4, ks + 24, some (.int (nQ k)), some (.int v), by omega, by omega, hR, ?_⟩
  refine (g223_23).trans ?_
  refine (if_pos (show (tkM τ 1).1 = 2 from congrArg (·.1) t1)).trans ?_
  refine (if_neg n0).trans ?_
  refine (if_pos a0).trans ?_
  refine (if_neg (cj 0 (by decide))).trans ?_
  refine (if_pos (show rdM τ 1 (nQ i).toNatClampNeg &&& nQ 63 = nQ 1 by rw [hw, hop])).trans ?_
  by_cases c : k = 0
  · have hv0 := hv c
    subst c
    simp (disch := omega) only [aOk, eq_self, nQ_nat, nQ_neg, nQ_add, leF, cn_l, Option.toList, List.cons_append, List.nil_append, if_true, if_false, true_and, and_true, or_false, false_or, not_false_eq_true, List.all_cons, List.all_nil, o1_r, o1_i, Bool.and_self, Bool.and_true, Nat.le_refl, Nat.zero_le, t1, x1, b1, b2, e1, q1, q2, m1, m2, m3, e2, e3, hv0, lg_r, g223_351, g223_375, g223_381, g223_405]
  · have c0 : (nQ k = nQ 0) = False := by rw [nQ_eq (by omega) (by decide)]; exact eq_false c
    simp (disch := omega) only [aOk, eq_self, nQ_nat, nQ_neg, nQ_add, leF, cn_l, Option.toList, List.cons_append, List.nil_append, if_true, if_false, true_and, and_true, or_false, false_or, not_false_eq_true, List.all_cons, List.all_nil, o1_r, o1_i, Bool.and_self, Bool.and_true, Nat.le_refl, Nat.zero_le, t1, x1, b1, b2, e1, q1, q2, m1, m2, m3, e2, e3, c0, g223_351, g223_375, g223_381, g223_405]
theorem op_2 (h : RW L xs τ) (hL : L ≤ 3072) (hi : i + 6 ≤ L) (hkc : kc ≤ 500000) (hks : ks ≤ 7000000) (hop : xs i &&& nQ 63 = nQ 2) : NxP L xs τ i kc ks o5 o6 := by
  have t1 : tkM τ 1 = (2, L) := h.1.2.1.1
  have x1 : ∀ j, rdM τ 1 j = xs j := h.1.2.1.2
  have hw : rdM τ 1 (nQ i).toNatClampNeg = xs i := by rw [nQ_nat (by omega), x1]
  have a0 : aOk 2 τ 1 (nQ i) := by
    simp (disch := omega) only [aOk, t1, nQ_neg, nQ_nat, leF, or_false, not_false_eq_true, and_true]
  have n0 : ¬ (nQ (tkM τ 1).2 - nQ 6 < nQ i) := by
    rw [t1, cnd_l hL (by omega)]
    omega
  have cj : ∀ j, j < 2 → ¬ rdM τ 1 (nQ i).toNatClampNeg &&& nQ 63 = nQ j := fun j hj => by
    rw [hw, hop, nQ_eq (by omega) (by omega)]
    omega
  have b1 : kc + 3 ≤ 601024 := by omega
  have b2 : ks + 18 ≤ 7293034 := by omega
  obtain ⟨τ1, τ2, k, v, e1, e2, hk3, hk, hv, hE, hR⟩ := s47 h (xs (i + 1)) (xs (i + 2))
  simp only [List.cons_append, List.nil_append] at e1
  have q1 : tkM τ1 1 = (2, L) := by
    rw [← hE.1]
    exact hR.1.2.1.1
  have q2 : ∀ j, rdM τ1 1 j = xs j := fun j => by
    rw [← hE.2 1 (by decide)]
    exact hR.1.2.1.2 j
  have m2 : tkM τ2 186 = (1, 5) := hR.1.1.2.2.2.2.1
  have m1 : tkM τ1 186 = (1, 5) := by
    rw [← hE.1]
    exact m2
  have m3 : tkM τ2 193 = (5, 1) := hR.1.1.2.2.1.2.2.2.2.2.2.2.2.2
  have e3 := d105 m2 hk
  refine ⟨τ2, kc + 3, ks + 18, some (.int (nQ k)), some (.int v), by omega, by omega, hR, ?_⟩
  refine (g223_23).trans ?_
  refine (if_pos (show (tkM τ 1).1 = 2 from congrArg (·.1) t1)).trans ?_
  refine (if_neg n0).trans ?_
  refine (if_pos a0).trans ?_
  refine (if_neg (cj 0 (by decide))).trans ?_
  refine (if_neg (cj 1 (by decide))).trans ?_
  refine (if_pos (show rdM τ 1 (nQ i).toNatClampNeg &&& nQ 63 = nQ 2 by rw [hw, hop])).trans ?_
  by_cases c : k = 0
  · have hv0 := hv c
    subst c
    simp (disch := omega) only [aOk, eq_self, nQ_nat, nQ_neg, nQ_add, leF, cn_l, Option.toList, List.cons_append, List.nil_append, if_true, if_false, true_and, and_true, or_false, false_or, not_false_eq_true, List.all_cons, List.all_nil, o1_r, o1_i, Bool.and_self, Bool.and_true, Nat.le_refl, Nat.zero_le, t1, x1, b1, b2, e1, q1, q2, m1, m2, m3, e2, e3, hv0, lg_r, g223_425, g223_443, g223_449, g223_473]
  · have c0 : (nQ k = nQ 0) = False := by rw [nQ_eq (by omega) (by decide)]; exact eq_false c
    simp (disch := omega) only [aOk, eq_self, nQ_nat, nQ_neg, nQ_add, leF, cn_l, Option.toList, List.cons_append, List.nil_append, if_true, if_false, true_and, and_true, or_false, false_or, not_false_eq_true, List.all_cons, List.all_nil, o1_r, o1_i, Bool.and_self, Bool.and_true, Nat.le_refl, Nat.zero_le, t1, x1, b1, b2, e1, q1, q2, m1, m2, m3, e2, e3, c0, g223_425, g223_443, g223_449, g223_473]
theorem op_3 (h : RW L xs τ) (hL : L ≤ 3072) (hi : i + 6 ≤ L) (hkc : kc ≤ 500000) (hks : ks ≤ 7000000) (hop : xs i &&& nQ 63 = nQ 3) : NxP L xs τ i kc ks o5 o6 := by
  have t1 : tkM τ 1 = (2, L) := h.1.2.1.1
  have x1 : ∀ j, rdM τ 1 j = xs j := h.1.2.1.2
  have hw : rdM τ 1 (nQ i).toNatClampNeg = xs i := by rw [nQ_nat (by omega), x1]
  have a0 : aOk 2 τ 1 (nQ i) := by
    simp (disch := omega) only [aOk, t1, nQ_neg, nQ_nat, leF, or_false, not_false_eq_true, and_true]
  have n0 : ¬ (nQ (tkM τ 1).2 - nQ 6 < nQ i) := by
    rw [t1, cnd_l hL (by omega)]
    omega
  have cj : ∀ j, j < 3 → ¬ rdM τ 1 (nQ i).toNatClampNeg &&& nQ 63 = nQ j := fun j hj => by
    rw [hw, hop, nQ_eq (by omega) (by omega)]
    omega
  have b1 : kc + 5 ≤ 601024 := by omega
  have b2 : ks + 30 ≤ 7293034 := by omega
  obtain ⟨τ1, τ2, k, v, e1, e2, hk3, hk, hv, hE, hR⟩ := s48 h (xs (i + 1)) (xs (i + 2)) (xs (i + 3)) (xs (i + 4))
  simp only [List.cons_append, List.nil_append] at e1
  have q1 : tkM τ1 1 = (2, L) := by
    rw [← hE.1]
    exact hR.1.2.1.1
  have q2 : ∀ j, rdM τ1 1 j = xs j := fun j => by
    rw [← hE.2 1 (by decide)]
    exact hR.1.2.1.2 j
  have m2 : tkM τ2 186 = (1, 5) := hR.1.1.2.2.2.2.1
  have m1 : tkM τ1 186 = (1, 5) := by
    rw [← hE.1]
    exact m2
  have m3 : tkM τ2 193 = (5, 1) := hR.1.1.2.2.1.2.2.2.2.2.2.2.2.2
  have e3 := d105 m2 hk
  refine ⟨τ2, kc + 5, ks + 30, some (.int (nQ k)), some (.int v), by omega, by omega, hR, ?_⟩
  refine (g223_23).trans ?_
  refine (if_pos (show (tkM τ 1).1 = 2 from congrArg (·.1) t1)).trans ?_
  refine (if_neg n0).trans ?_
  refine (if_pos a0).trans ?_
  refine (if_neg (cj 0 (by decide))).trans ?_
  refine (if_neg (cj 1 (by decide))).trans ?_
  refine (if_neg (cj 2 (by decide))).trans ?_
  refine (if_pos (show rdM τ 1 (nQ i).toNatClampNeg &&& nQ 63 = nQ 3 by rw [hw, hop])).trans ?_
  by_cases c : k = 0
  · have hv0 := hv c
    subst c
    simp (disch := omega) only [aOk, eq_self, nQ_nat, nQ_neg, nQ_add, leF, cn_l, Option.toList, List.cons_append, List.nil_append, if_true, if_false, true_and, and_true, or_false, false_or, not_false_eq_true, List.all_cons, List.all_nil, o1_r, o1_i, Bool.and_self, Bool.and_true, Nat.le_refl, Nat.zero_le, t1, x1, b1, b2, e1, q1, q2, m1, m2, m3, e2, e3, hv0, lg_r, g223_505, g223_535, g223_541, g223_565]
  · have c0 : (nQ k = nQ 0) = False := by rw [nQ_eq (by omega) (by decide)]; exact eq_false c
    simp (disch := omega) only [aOk, eq_self, nQ_nat, nQ_neg, nQ_add, leF, cn_l, Option.toList, List.cons_append, List.nil_append, if_true, if_false, true_and, and_true, or_false, false_or, not_false_eq_true, List.all_cons, List.all_nil, o1_r, o1_i, Bool.and_self, Bool.and_true, Nat.le_refl, Nat.zero_le, t1, x1, b1, b2, e1, q1, q2, m1, m2, m3, e2, e3, c0, g223_505, g223_535, g223_541, g223_565]
theorem op_4 (h : RW L xs τ) (hL : L ≤ 3072) (hi : i + 6 ≤ L) (hkc : kc ≤ 500000) (hks : ks ≤ 7000000) (hop : xs i &&& nQ 63 = nQ 4) : NxP L xs τ i kc ks o5 o6 := by
  have t1 : tkM τ 1 = (2, L) := h.1.2.1.1
  have x1 : ∀ j, rdM τ 1 j = xs j := h.1.2.1.2
  have hw : rdM τ 1 (nQ i).toNatClampNeg = xs i := by rw [nQ_nat (by omega), x1]
  have a0 : aOk 2 τ 1 (nQ i) := by
    simp (disch := omega) only [aOk, t1, nQ_neg, nQ_nat, leF, or_false, not_false_eq_true, and_true]
  have n0 : ¬ (nQ (tkM τ 1).2 - nQ 6 < nQ i) := by
    rw [t1, cnd_l hL (by omega)]
    omega
  have cj : ∀ j, j < 4 → ¬ rdM τ 1 (nQ i).toNatClampNeg &&& nQ 63 = nQ j := fun j hj => by
    rw [hw, hop, nQ_eq (by omega) (by omega)]
    omega
  have b1 : kc + 4 ≤ 601024 := by omega
  have b2 : ks + 24 ≤ 7293034 := by omega
  obtain ⟨τ1, τ2, k, v, e1, e2, hk3, hk, hv, hE, hR⟩ := s49 h (xs (i + 1)) (xs (i + 2)) (xs (i + 3)) (xs (i + 4))
  simp only [List.cons_append, List.nil_append] at e1
  have q1 : tkM τ1 1 = (2, L) := by
    rw [← hE.1]
    exact hR.1.2.1.1
  have q2 : ∀ j, rdM τ1 1 j = xs j := fun j => by
    rw [← hE.2 1 (by decide)]
    exact hR.1.2.1.2 j
  have m2 : tkM τ2 186 = (1, 5) := hR.1.1.2.2.2.2.1
  have m1 : tkM τ1 186 = (1, 5) := by
    rw [← hE.1]
    exact m2
  have m3 : tkM τ2 193 = (5, 1) := hR.1.1.2.2.1.2.2.2.2.2.2.2.2.2
  have e3 := d105 m2 hk
  refine ⟨τ2, kc + 4, ks + 24, some (.int (nQ k)), some (.int v), by omega, by omega, hR, ?_⟩
  refine (g223_23).trans ?_
  refine (if_pos (show (tkM τ 1).1 = 2 from congrArg (·.1) t1)).trans ?_
  refine (if_neg n0).trans ?_
  refine (if_pos a0).trans ?_
  refine (if_neg (cj 0 (by decide))).trans ?_
  refine (if_neg (cj 1 (by decide))).trans ?_
  refine (if_neg (cj 2 (by decide))).trans ?_
  refine (if_neg (cj 3 (by decide))).trans ?_
  refine (if_pos (show rdM τ 1 (nQ i).toNatClampNeg &&& nQ 63 = nQ 4 by rw [hw, hop])).trans ?_
  by_cases c : k = 0
  · have hv0 := hv c
    subst c
    simp (disch := omega) only [aOk, eq_self, nQ_nat, nQ_neg, nQ_add, leF, cn_l, Option.toList, List.cons_append, List.nil_append, if_true, if_false, true_and, and_true, or_false, false_or, not_false_eq_true, List.all_cons, List.all_nil, o1_r, o1_i, Bool.and_self, Bool.and_true, Nat.le_refl, Nat.zero_le, t1, x1, b1, b2, e1, q1, q2, m1, m2, m3, e2, e3, hv0, lg_r, g223_597, g223_627, g223_633, g223_657]
  · have c0 : (nQ k = nQ 0) = False := by rw [nQ_eq (by omega) (by decide)]; exact eq_false c
    simp (disch := omega) only [aOk, eq_self, nQ_nat, nQ_neg, nQ_add, leF, cn_l, Option.toList, List.cons_append, List.nil_append, if_true, if_false, true_and, and_true, or_false, false_or, not_false_eq_true, List.all_cons, List.all_nil, o1_r, o1_i, Bool.and_self, Bool.and_true, Nat.le_refl, Nat.zero_le, t1, x1, b1, b2, e1, q1, q2, m1, m2, m3, e2, e3, c0, g223_597, g223_627, g223_633, g223_657]
theorem op_5 (h : RW L xs τ) (hL : L ≤ 3072) (hi : i + 6 ≤ L) (hkc : kc ≤ 500000) (hks : ks ≤ 7000000) (hop : xs i &&& nQ 63 = nQ 5) : NxP L xs τ i kc ks o5 o6 := by
  have t1 : tkM τ 1 = (2, L) := h.1.2.1.1
  have x1 : ∀ j, rdM τ 1 j = xs j := h.1.2.1.2
  have hw : rdM τ 1 (nQ i).toNatClampNeg = xs i := by rw [nQ_nat (by omega), x1]
  have a0 : aOk 2 τ 1 (nQ i) := by
    simp (disch := omega) only [aOk, t1, nQ_neg, nQ_nat, leF, or_false, not_false_eq_true, and_true]
  have n0 : ¬ (nQ (tkM τ 1).2 - nQ 6 < nQ i) := by
    rw [t1, cnd_l hL (by omega)]
    omega
  have cj : ∀ j, j < 5 → ¬ rdM τ 1 (nQ i).toNatClampNeg &&& nQ 63 = nQ j := fun j hj => by
    rw [hw, hop, nQ_eq (by omega) (by omega)]
    omega
  have b1 : kc + 2 ≤ 601024 := by omega
  have b2 : ks + 12 ≤ 7293034 := by omega
  obtain ⟨τ1, τ2, k, v, e1, e2, hk3, hk, hv, hE, hR⟩ := s50 h (xs (i + 1)) (xs (i + 2))
  simp only [List.cons_append, List.nil_append] at e1
  have q1 : tkM τ1 1 = (2, L) := by
    rw [← hE.1]
    exact hR.1.2.1.1
  have q2 : ∀ j, rdM τ1 1 j = xs j := fun j => by
    rw [← hE.2 1 (by decide)]
    exact hR.1.2.1.2 j
  have m2 : tkM τ2 186 = (1, 5) := hR.1.1.2.2.2.2.1
  have m1 : tkM τ1 186 = (1, 5) := by
    rw [← hE.1]
    exact m2
  have m3 : tkM τ2 193 = (5, 1) := hR.1.1.2.2.1.2.2.2.2.2.2.2.2.2
  have e3 := d105 m2 hk
  refine ⟨τ2, kc + 2, ks + 12, some (.int (nQ k)), some (.int v), by omega, by omega, hR, ?_⟩
  refine (g223_23).trans ?_
  refine (if_pos (show (tkM τ 1).1 = 2 from congrArg (·.1) t1)).trans ?_
  refine (if_neg n0).trans ?_
  refine (if_pos a0).trans ?_
  refine (if_neg (cj 0 (by decide))).trans ?_
  refine (if_neg (cj 1 (by decide))).trans ?_
  refine (if_neg (cj 2 (by decide))).trans ?_
  refine (if_neg (cj 3 (by decide))).trans ?_
  refine (if_neg (cj 4 (by decide))).trans ?_
  refine (if_pos (show rdM τ 1 (nQ i).toNatClampNeg &&& nQ 63 = nQ 5 by rw [hw, hop])).trans ?_
  by_cases c : k = 0
  · have hv0 := hv c
    subst c
    simp (disch := omega) only [aOk, eq_self, nQ_nat, nQ_neg, nQ_add, leF, cn_l, Option.toList, List.cons_append, List.nil_append, if_true, if_false, true_and, and_true, or_false, false_or, not_false_eq_true, List.all_cons, List.all_nil, o1_r, o1_i, Bool.and_self, Bool.and_true, Nat.le_refl, Nat.zero_le, t1, x1, b1, b2, e1, q1, q2, m1, m2, m3, e2, e3, hv0, lg_r, g223_677, g223_695, g223_701, g223_725]
  · have c0 : (nQ k = nQ 0) = False := by rw [nQ_eq (by omega) (by decide)]; exact eq_false c
    simp (disch := omega) only [aOk, eq_self, nQ_nat, nQ_neg, nQ_add, leF, cn_l, Option.toList, List.cons_append, List.nil_append, if_true, if_false, true_and, and_true, or_false, false_or, not_false_eq_true, List.all_cons, List.all_nil, o1_r, o1_i, Bool.and_self, Bool.and_true, Nat.le_refl, Nat.zero_le, t1, x1, b1, b2, e1, q1, q2, m1, m2, m3, e2, e3, c0, g223_677, g223_695, g223_701, g223_725]
theorem op_6 (h : RW L xs τ) (hL : L ≤ 3072) (hi : i + 6 ≤ L) (hkc : kc ≤ 500000) (hks : ks ≤ 7000000) (hop : xs i &&& nQ 63 = nQ 6) : NxP L xs τ i kc ks o5 o6 := by
  have t1 : tkM τ 1 = (2, L) := h.1.2.1.1
  have x1 : ∀ j, rdM τ 1 j = xs j := h.1.2.1.2
  have hw : rdM τ 1 (nQ i).toNatClampNeg = xs i := by rw [nQ_nat (by omega), x1]
  have a0 : aOk 2 τ 1 (nQ i) := by
    simp (disch := omega) only [aOk, t1, nQ_neg, nQ_nat, leF, or_false, not_false_eq_true, and_true]
  have n0 : ¬ (nQ (tkM τ 1).2 - nQ 6 < nQ i) := by
    rw [t1, cnd_l hL (by omega)]
    omega
  have cj : ∀ j, j < 6 → ¬ rdM τ 1 (nQ i).toNatClampNeg &&& nQ 63 = nQ j := fun j hj => by
    rw [hw, hop, nQ_eq (by omega) (by omega)]
    omega
  have b1 : kc + 3 ≤ 601024 := by omega
  have b2 : ks + 18 ≤ 7293034 := by omega
  obtain ⟨τ1, τ2, k, v, e1, e2, hk3, hk, hv, hE, hR⟩ := s51 h (xs (i + 1)) (xs (i + 2))
  simp only [List.cons_append, List.nil_append] at e1
  have q1 : tkM τ1 1 = (2, L) := by
    rw [← hE.1]
    exact hR.1.2.1.1
  have q2 : ∀ j, rdM τ1 1 j = xs j := fun j => by
    rw [← hE.2 1 (by decide)]
    exact hR.1.2.1.2 j
  have m2 : tkM τ2 186 = (1, 5) := hR.1.1.2.2.2.2.1
  have m1 : tkM τ1 186 = (1, 5) := by
    rw [← hE.1]
    exact m2
  have m3 : tkM τ2 193 = (5, 1) := hR.1.1.2.2.1.2.2.2.2.2.2.2.2.2
  have e3 := d105 m2 hk
  refine ⟨τ2, kc + 3, ks + 18, some (.int (nQ k)), some (.int v), by omega, by omega, hR, ?_⟩
  refine (g223_23).trans ?_
  refine (if_pos (show (tkM τ 1).1 = 2 from congrArg (·.1) t1)).trans ?_
  refine (if_neg n0).trans ?_
  refine (if_pos a0).trans ?_
  refine (if_neg (cj 0 (by decide))).trans ?_
  refine (if_neg (cj 1 (by decide))).trans ?_
  refine (if_neg (cj 2 (by decide))).trans ?_
  refine (if_neg (cj 3 (by decide))).trans ?_
  refine (if_neg (cj 4 (by decide))).trans ?_
  refine (if_neg (cj 5 (by decide))).trans ?_
  refine (if_pos (show rdM τ 1 (nQ i).toNatClampNeg &&& nQ 63 = nQ 6 by rw [hw, hop])).trans ?_
  by_cases c : k = 0
  · have hv0 := hv c
    subst c
    simp (disch := omega) only [aOk, eq_self, nQ_nat, nQ_neg, nQ_add, leF, cn_l, Option.toList, List.cons_append, List.nil_append, if_true, if_false, true_and, and_true, or_false, false_or, not_false_eq_true, List.all_cons, List.all_nil, o1_r, o1_i, Bool.and_self, Bool.and_true, Nat.le_refl, Nat.zero_le, t1, x1, b1, b2, e1, q1, q2, m1, m2, m3, e2, e3, hv0, lg_r, g223_745, g223_763, g223_769, g223_793]
  · have c0 : (nQ k = nQ 0) = False := by rw [nQ_eq (by omega) (by decide)]; exact eq_false c
    simp (disch := omega) only [aOk, eq_self, nQ_nat, nQ_neg, nQ_add, leF, cn_l, Option.toList, List.cons_append, List.nil_append, if_true, if_false, true_and, and_true, or_false, false_or, not_false_eq_true, List.all_cons, List.all_nil, o1_r, o1_i, Bool.and_self, Bool.and_true, Nat.le_refl, Nat.zero_le, t1, x1, b1, b2, e1, q1, q2, m1, m2, m3, e2, e3, c0, g223_745, g223_763, g223_769, g223_793]
theorem op_7 (h : RW L xs τ) (hL : L ≤ 3072) (hi : i + 6 ≤ L) (hkc : kc ≤ 500000) (hks : ks ≤ 7000000) (hop : xs i &&& nQ 63 = nQ 7) : NxP L xs τ i kc ks o5 o6 := by
  have t1 : tkM τ 1 = (2, L) := h.1.2.1.1
  have x1 : ∀ j, rdM τ 1 j = xs j := h.1.2.1.2
  have hw : rdM τ 1 (nQ i).toNatClampNeg = xs i := by rw [nQ_nat (by omega), x1]
  have a0 : aOk 2 τ 1 (nQ i) := by
    simp (disch := omega) only [aOk, t1, nQ_neg, nQ_nat, leF, or_false, not_false_eq_true, and_true]
  have n0 : ¬ (nQ (tkM τ 1).2 - nQ 6 < nQ i) := by
    rw [t1, cnd_l hL (by omega)]
    omega
  have cj : ∀ j, j < 7 → ¬ rdM τ 1 (nQ i).toNatClampNeg &&& nQ 63 = nQ j := fun j hj => by
    rw [hw, hop, nQ_eq (by omega) (by omega)]
    omega
  have b1 : kc + 1 ≤ 601024 := by omega
  have b2 : ks + 6 ≤ 7293034 := by omega
  have b3 : kc + 1 ≤ 601024 := by omega
  rcases Classical.propComplete (xs (i + 2) = nQ 0) with cz | cz
  · obtain ⟨τ1, τ2, k, v, e1, e2, hk3, hk, hv, hE, hR⟩ := s52 h (xs (i + 1)) false
    simp only [Bool.false_eq_true, if_false, if_true, List.cons_append, List.nil_append] at e1 e2
    have q1 : tkM τ1 1 = (2, L) := by
      rw [← hE.1]
      exact hR.1.2.1.1
    have q2 : ∀ j, rdM τ1 1 j = xs j := fun j => by
      rw [← hE.2 1 (by decide)]
      exact hR.1.2.1.2 j
    have m2 : tkM τ2 186 = (1, 5) := hR.1.1.2.2.2.2.1
    have m1 : tkM τ1 186 = (1, 5) := by
      rw [← hE.1]
      exact m2
    have m3 : tkM τ2 193 = (5, 1) := hR.1.1.2.2.1.2.2.2.2.2.2.2.2.2
    have e3 := d105 m2 hk
    refine ⟨τ2, kc + 1, ks + 6, some (.int (nQ k)), some (.int v), by omega, by omega, hR, ?_⟩
    refine (g223_23).trans ?_
    refine (if_pos (show (tkM τ 1).1 = 2 from congrArg (·.1) t1)).trans ?_
    refine (if_neg n0).trans ?_
    refine (if_pos a0).trans ?_
    refine (if_neg (cj 0 (by decide))).trans ?_
    refine (if_neg (cj 1 (by decide))).trans ?_
    refine (if_neg (cj 2 (by decide))).trans ?_
    refine (if_neg (cj 3 (by decide))).trans ?_
    refine (if_neg (cj 4 (by decide))).trans ?_
    refine (if_neg (cj 5 (by decide))).trans ?_
    refine (if_neg (cj 6 (by decide))).trans ?_
    refine (if_pos (show rdM τ 1 (nQ i).toNatClampNeg &&& nQ 63 = nQ 7 by rw [hw, hop])).trans ?_
    by_cases c : k = 0
    · have hv0 := hv c
      subst c
      simp (disch := omega) only [aOk, eq_self, nQ_nat, nQ_neg, nQ_add, leF, cn_l, Option.toList, List.cons_append, List.nil_append, if_true, if_false, true_and, and_true, or_false, false_or, not_false_eq_true, List.all_cons, List.all_nil, o1_r, o1_i, Bool.and_self, Bool.and_true, Nat.le_refl, Nat.zero_le, t1, x1, cz, b1, b2, e1, q1, q2, m1, m2, m3, e2, e3, hv0, lg_r, g223_817, g223_821, g223_844, g223_847, g223_853, g223_877]
    · have c0 : (nQ k = nQ 0) = False := by rw [nQ_eq (by omega) (by decide)]; exact eq_false c
      simp (disch := omega) only [aOk, eq_self, nQ_nat, nQ_neg, nQ_add, leF, cn_l, Option.toList, List.cons_append, List.nil_append, if_true, if_false, true_and, and_true, or_false, false_or, not_false_eq_true, List.all_cons, List.all_nil, o1_r, o1_i, Bool.and_self, Bool.and_true, Nat.le_refl, Nat.zero_le, t1, x1, cz, b1, b2, e1, q1, q2, m1, m2, m3, e2, e3, c0, g223_817, g223_821, g223_844, g223_847, g223_853, g223_877]
  · obtain ⟨τ1, τ2, k, v, e1, e2, hk3, hk, hv, hE, hR⟩ := s52 h (xs (i + 1)) true
    simp only [Bool.false_eq_true, if_false, if_true, List.cons_append, List.nil_append] at e1 e2
    have q1 : tkM τ1 1 = (2, L) := by
      rw [← hE.1]
      exact hR.1.2.1.1
    have q2 : ∀ j, rdM τ1 1 j = xs j := fun j => by
      rw [← hE.2 1 (by decide)]
      exact hR.1.2.1.2 j
    have m2 : tkM τ2 186 = (1, 5) := hR.1.1.2.2.2.2.1
    have m1 : tkM τ1 186 = (1, 5) := by
      rw [← hE.1]
      exact m2
    have m3 : tkM τ2 193 = (5, 1) := hR.1.1.2.2.1.2.2.2.2.2.2.2.2.2
    have e3 := d105 m2 hk
    refine ⟨τ2, kc + 1, ks + 6, some (.int (nQ k)), some (.int v), by omega, by omega, hR, ?_⟩
    refine (g223_23).trans ?_
    refine (if_pos (show (tkM τ 1).1 = 2 from congrArg (·.1) t1)).trans ?_
    refine (if_neg n0).trans ?_
    refine (if_pos a0).trans ?_
    refine (if_neg (cj 0 (by decide))).trans ?_
    refine (if_neg (cj 1 (by decide))).trans ?_
    refine (if_neg (cj 2 (by decide))).trans ?_
    refine (if_neg (cj 3 (by decide))).trans ?_
    refine (if_neg (cj 4 (by decide))).trans ?_
    refine (if_neg (cj 5 (by decide))).trans ?_
    refine (if_neg (cj 6 (by decide))).trans ?_
    refine (if_pos (show rdM τ 1 (nQ i).toNatClampNeg &&& nQ 63 = nQ 7 by rw [hw, hop])).trans ?_
    by_cases c : k = 0
    · have hv0 := hv c
      subst c
      simp (disch := omega) only [aOk, eq_self, nQ_nat, nQ_neg, nQ_add, leF, cn_l, Option.toList, List.cons_append, List.nil_append, if_true, if_false, true_and, and_true, or_false, false_or, not_false_eq_true, List.all_cons, List.all_nil, o1_r, o1_i, Bool.and_self, Bool.and_true, Nat.le_refl, Nat.zero_le, t1, x1, cz, b1, b2, e1, q1, q2, m1, m2, m3, e2, e3, hv0, lg_r, g223_817, g223_821, g223_844, g223_847, g223_853, g223_877]
    · have c0 : (nQ k = nQ 0) = False := by rw [nQ_eq (by omega) (by decide)]; exact eq_false c
      simp (disch := omega) only [aOk, eq_self, nQ_nat, nQ_neg, nQ_add, leF, cn_l, Option.toList, List.cons_append, List.nil_append, if_true, if_false, true_and, and_true, or_false, false_or, not_false_eq_true, List.all_cons, List.all_nil, o1_r, o1_i, Bool.and_self, Bool.and_true, Nat.le_refl, Nat.zero_le, t1, x1, cz, b1, b2, e1, q1, q2, m1, m2, m3, e2, e3, c0, g223_817, g223_821, g223_844, g223_847, g223_853, g223_877]
theorem op_8 (h : RW L xs τ) (hL : L ≤ 3072) (hi : i + 6 ≤ L) (hkc : kc ≤ 500000) (hks : ks ≤ 7000000) (hop : xs i &&& nQ 63 = nQ 8) : NxP L xs τ i kc ks o5 o6 := by
  have t1 : tkM τ 1 = (2, L) := h.1.2.1.1
  have x1 : ∀ j, rdM τ 1 j = xs j := h.1.2.1.2
  have hw : rdM τ 1 (nQ i).toNatClampNeg = xs i := by rw [nQ_nat (by omega), x1]
  have a0 : aOk 2 τ 1 (nQ i) := by
    simp (disch := omega) only [aOk, t1, nQ_neg, nQ_nat, leF, or_false, not_false_eq_true, and_true]
  have n0 : ¬ (nQ (tkM τ 1).2 - nQ 6 < nQ i) := by
    rw [t1, cnd_l hL (by omega)]
    omega
  have cj : ∀ j, j < 8 → ¬ rdM τ 1 (nQ i).toNatClampNeg &&& nQ 63 = nQ j := fun j hj => by
    rw [hw, hop, nQ_eq (by omega) (by omega)]
    omega
  have b1 : kc + 2 ≤ 601024 := by omega
  have b2 : ks + 12 ≤ 7293034 := by omega
  obtain ⟨τ1, τ2, k, v, e1, e2, hk3, hk, hv, hE, hR⟩ := s53 h (xs (i + 1))
  simp only [List.cons_append, List.nil_append] at e1
  have q1 : tkM τ1 1 = (2, L) := by
    rw [← hE.1]
    exact hR.1.2.1.1
  have q2 : ∀ j, rdM τ1 1 j = xs j := fun j => by
    rw [← hE.2 1 (by decide)]
    exact hR.1.2.1.2 j
  have m2 : tkM τ2 186 = (1, 5) := hR.1.1.2.2.2.2.1
  have m1 : tkM τ1 186 = (1, 5) := by
    rw [← hE.1]
    exact m2
  have m3 : tkM τ2 193 = (5, 1) := hR.1.1.2.2.1.2.2.2.2.2.2.2.2.2
  have e3 := d105 m2 hk
  refine ⟨τ2, kc + 2, ks + 12, some (.int (nQ k)), some (.int v), by omega, by omega, hR, ?_⟩
  refine (g223_23).trans ?_
  refine (if_pos (show (tkM τ 1).1 = 2 from congrArg (·.1) t1)).trans ?_
  refine (if_neg n0).trans ?_
  refine (if_pos a0).trans ?_
  refine (if_neg (cj 0 (by decide))).trans ?_
  refine (if_neg (cj 1 (by decide))).trans ?_
  refine (if_neg (cj 2 (by decide))).trans ?_
  refine (if_neg (cj 3 (by decide))).trans ?_
  refine (if_neg (cj 4 (by decide))).trans ?_
  refine (if_neg (cj 5 (by decide))).trans ?_
  refine (if_neg (cj 6 (by decide))).trans ?_
  refine (if_neg (cj 7 (by decide))).trans ?_
  refine (if_pos (show rdM τ 1 (nQ i).toNatClampNeg &&& nQ 63 = nQ 8 by rw [hw, hop])).trans ?_
  by_cases c : k = 0
  · have hv0 := hv c
    subst c
    simp (disch := omega) only [aOk, eq_self, nQ_nat, nQ_neg, nQ_add, leF, cn_l, Option.toList, List.cons_append, List.nil_append, if_true, if_false, true_and, and_true, or_false, false_or, not_false_eq_true, List.all_cons, List.all_nil, o1_r, o1_i, Bool.and_self, Bool.and_true, Nat.le_refl, Nat.zero_le, t1, x1, b1, b2, e1, q1, q2, m1, m2, m3, e2, e3, hv0, lg_r, g223_891, g223_903, g223_909, g223_933]
  · have c0 : (nQ k = nQ 0) = False := by rw [nQ_eq (by omega) (by decide)]; exact eq_false c
    simp (disch := omega) only [aOk, eq_self, nQ_nat, nQ_neg, nQ_add, leF, cn_l, Option.toList, List.cons_append, List.nil_append, if_true, if_false, true_and, and_true, or_false, false_or, not_false_eq_true, List.all_cons, List.all_nil, o1_r, o1_i, Bool.and_self, Bool.and_true, Nat.le_refl, Nat.zero_le, t1, x1, b1, b2, e1, q1, q2, m1, m2, m3, e2, e3, c0, g223_891, g223_903, g223_909, g223_933]
theorem op_9 (h : RW L xs τ) (hL : L ≤ 3072) (hi : i + 6 ≤ L) (hkc : kc ≤ 500000) (hks : ks ≤ 7000000) (hop : xs i &&& nQ 63 = nQ 9) : NxP L xs τ i kc ks o5 o6 := by
  have t1 : tkM τ 1 = (2, L) := h.1.2.1.1
  have x1 : ∀ j, rdM τ 1 j = xs j := h.1.2.1.2
  have hw : rdM τ 1 (nQ i).toNatClampNeg = xs i := by rw [nQ_nat (by omega), x1]
  have a0 : aOk 2 τ 1 (nQ i) := by
    simp (disch := omega) only [aOk, t1, nQ_neg, nQ_nat, leF, or_false, not_false_eq_true, and_true]
  have n0 : ¬ (nQ (tkM τ 1).2 - nQ 6 < nQ i) := by
    rw [t1, cnd_l hL (by omega)]
    omega
  have cj : ∀ j, j < 9 → ¬ rdM τ 1 (nQ i).toNatClampNeg &&& nQ 63 = nQ j := fun j hj => by
    rw [hw, hop, nQ_eq (by omega) (by omega)]
    omega
  have b1 : kc + 2 ≤ 601024 := by omega
  have b2 : ks + 12 ≤ 7293034 := by omega
  obtain ⟨τ1, τ2, k, v, e1, e2, hk3, hk, hv, hE, hR⟩ := s54 h (xs (i + 1))
  simp only [List.cons_append, List.nil_append] at e1
  have q1 : tkM τ1 1 = (2, L) := by
    rw [← hE.1]
    exact hR.1.2.1.1
  have q2 : ∀ j, rdM τ1 1 j = xs j := fun j => by
    rw [← hE.2 1 (by decide)]
    exact hR.1.2.1.2 j
  have m2 : tkM τ2 186 = (1, 5) := hR.1.1.2.2.2.2.1
  have m1 : tkM τ1 186 = (1, 5) := by
    rw [← hE.1]
    exact m2
  have m3 : tkM τ2 193 = (5, 1) := hR.1.1.2.2.1.2.2.2.2.2.2.2.2.2
  have e3 := d105 m2 hk
  refine ⟨τ2, kc + 2, ks + 12, some (.int (nQ k)), some (.int v), by omega, by omega, hR, ?_⟩
  refine (g223_23).trans ?_
  refine (if_pos (show (tkM τ 1).1 = 2 from congrArg (·.1) t1)).trans ?_
  refine (if_neg n0).trans ?_
  refine (if_pos a0).trans ?_
  refine (if_neg (cj 0 (by decide))).trans ?_
  refine (if_neg (cj 1 (by decide))).trans ?_
  refine (if_neg (cj 2 (by decide))).trans ?_
  refine (if_neg (cj 3 (by decide))).trans ?_
  refine (if_neg (cj 4 (by decide))).trans ?_
  refine (if_neg (cj 5 (by decide))).trans ?_
  refine (if_neg (cj 6 (by decide))).trans ?_
  refine (if_neg (cj 7 (by decide))).trans ?_
  refine (if_neg (cj 8 (by decide))).trans ?_
  refine (if_pos (show rdM τ 1 (nQ i).toNatClampNeg &&& nQ 63 = nQ 9 by rw [hw, hop])).trans ?_
  by_cases c : k = 0
  · have hv0 := hv c
    subst c
    simp (disch := omega) only [aOk, eq_self, nQ_nat, nQ_neg, nQ_add, leF, cn_l, Option.toList, List.cons_append, List.nil_append, if_true, if_false, true_and, and_true, or_false, false_or, not_false_eq_true, List.all_cons, List.all_nil, o1_r, o1_i, Bool.and_self, Bool.and_true, Nat.le_refl, Nat.zero_le, t1, x1, b1, b2, e1, q1, q2, m1, m2, m3, e2, e3, hv0, lg_r, g223_947, g223_959, g223_965, g223_989]
  · have c0 : (nQ k = nQ 0) = False := by rw [nQ_eq (by omega) (by decide)]; exact eq_false c
    simp (disch := omega) only [aOk, eq_self, nQ_nat, nQ_neg, nQ_add, leF, cn_l, Option.toList, List.cons_append, List.nil_append, if_true, if_false, true_and, and_true, or_false, false_or, not_false_eq_true, List.all_cons, List.all_nil, o1_r, o1_i, Bool.and_self, Bool.and_true, Nat.le_refl, Nat.zero_le, t1, x1, b1, b2, e1, q1, q2, m1, m2, m3, e2, e3, c0, g223_947, g223_959, g223_965, g223_989]
theorem op_10 (h : RW L xs τ) (hL : L ≤ 3072) (hi : i + 6 ≤ L) (hkc : kc ≤ 500000) (hks : ks ≤ 7000000) (hop : xs i &&& nQ 63 = nQ 10) : NxP L xs τ i kc ks o5 o6 := by
  have t1 : tkM τ 1 = (2, L) := h.1.2.1.1
  have x1 : ∀ j, rdM τ 1 j = xs j := h.1.2.1.2
  have hw : rdM τ 1 (nQ i).toNatClampNeg = xs i := by rw [nQ_nat (by omega), x1]
  have a0 : aOk 2 τ 1 (nQ i) := by
    simp (disch := omega) only [aOk, t1, nQ_neg, nQ_nat, leF, or_false, not_false_eq_true, and_true]
  have n0 : ¬ (nQ (tkM τ 1).2 - nQ 6 < nQ i) := by
    rw [t1, cnd_l hL (by omega)]
    omega
  have cj : ∀ j, j < 10 → ¬ rdM τ 1 (nQ i).toNatClampNeg &&& nQ 63 = nQ j := fun j hj => by
    rw [hw, hop, nQ_eq (by omega) (by omega)]
    omega
  have b1 : kc ≤ 601024 := by omega
  have b2 : ks ≤ 7293034 := by omega
  obtain ⟨v, τ1, τ2, e1, e2, hE, hR⟩ := s55 h
  have m1 : tkM τ1 186 = (1, 5) := by
    rw [← hE.1]
    exact hR.1.1.2.2.2.2.1
  refine ⟨τ2, kc, ks, o5, o6, by omega, by omega, hR, ?_⟩
  refine (g223_23).trans ?_
  refine (if_pos (show (tkM τ 1).1 = 2 from congrArg (·.1) t1)).trans ?_
  refine (if_neg n0).trans ?_
  refine (if_pos a0).trans ?_
  refine (if_neg (cj 0 (by decide))).trans ?_
  refine (if_neg (cj 1 (by decide))).trans ?_
  refine (if_neg (cj 2 (by decide))).trans ?_
  refine (if_neg (cj 3 (by decide))).trans ?_
  refine (if_neg (cj 4 (by decide))).trans ?_
  refine (if_neg (cj 5 (by decide))).trans ?_
  refine (if_neg (cj 6 (by decide))).trans ?_
  refine (if_neg (cj 7 (by decide))).trans ?_
  refine (if_neg (cj 8 (by decide))).trans ?_
  refine (if_neg (cj 9 (by decide))).trans ?_
  refine (if_pos (show rdM τ 1 (nQ i).toNatClampNeg &&& nQ 63 = nQ 10 by rw [hw, hop])).trans ?_
  have w8 : tkM τ 8 = (1, 4) := h.1.1.1.1
  simp (disch := omega) only [aOk, eq_self, nQ_nat, nQ_neg, nQ_add, leF, cn_l, Option.toList, List.cons_append, List.nil_append, if_true, if_false, true_and, and_true, or_false, false_or, not_false_eq_true, List.all_cons, List.all_nil, o1_r, o1_i, Bool.and_self, Bool.and_true, Nat.le_refl, Nat.zero_le, Nat.reduceLeDiff, w8, b1, b2, e1, m1, e2, g223_996, g223_1000]
theorem op_11 (h : RW L xs τ) (hL : L ≤ 3072) (hi : i + 6 ≤ L) (hkc : kc ≤ 500000) (hks : ks ≤ 7000000) (hop : xs i &&& nQ 63 = nQ 11) : NxP L xs τ i kc ks o5 o6 := by
  have t1 : tkM τ 1 = (2, L) := h.1.2.1.1
  have x1 : ∀ j, rdM τ 1 j = xs j := h.1.2.1.2
  have hw : rdM τ 1 (nQ i).toNatClampNeg = xs i := by rw [nQ_nat (by omega), x1]
  have a0 : aOk 2 τ 1 (nQ i) := by
    simp (disch := omega) only [aOk, t1, nQ_neg, nQ_nat, leF, or_false, not_false_eq_true, and_true]
  have n0 : ¬ (nQ (tkM τ 1).2 - nQ 6 < nQ i) := by
    rw [t1, cnd_l hL (by omega)]
    omega
  have cj : ∀ j, j < 11 → ¬ rdM τ 1 (nQ i).toNatClampNeg &&& nQ 63 = nQ j := fun j hj => by
    rw [hw, hop, nQ_eq (by omega) (by omega)]
    omega
  have b1 : kc ≤ 601024 := by omega
  have b2 : ks ≤ 7293034 := by omega
  obtain ⟨v, τ1, τ2, e1, e2, hE, hR⟩ := s56 h
  have m1 : tkM τ1 186 = (1, 5) := by
    rw [← hE.1]
    exact hR.1.1.2.2.2.2.1
  refine ⟨τ2, kc, ks, o5, o6, by omega, by omega, hR, ?_⟩
  refine (g223_23).trans ?_
  refine (if_pos (show (tkM τ 1).1 = 2 from congrArg (·.1) t1)).trans ?_
  refine (if_neg n0).trans ?_
  refine (if_pos a0).trans ?_
  refine (if_neg (cj 0 (by decide))).trans ?_
  refine (if_neg (cj 1 (by decide))).trans ?_
  refine (if_neg (cj 2 (by decide))).trans ?_
  refine (if_neg (cj 3 (by decide))).trans ?_
  refine (if_neg (cj 4 (by decide))).trans ?_
  refine (if_neg (cj 5 (by decide))).trans ?_
  refine (if_neg (cj 6 (by decide))).trans ?_
  refine (if_neg (cj 7 (by decide))).trans ?_
  refine (if_neg (cj 8 (by decide))).trans ?_
  refine (if_neg (cj 9 (by decide))).trans ?_
  refine (if_neg (cj 10 (by decide))).trans ?_
  refine (if_pos (show rdM τ 1 (nQ i).toNatClampNeg &&& nQ 63 = nQ 11 by rw [hw, hop])).trans ?_
  have w8 : tkM τ 8 = (1, 4) := h.1.1.1.1
  simp (disch := omega) only [aOk, eq_self, nQ_nat, nQ_neg, nQ_add, leF, cn_l, Option.toList, List.cons_append, List.nil_append, if_true, if_false, true_and, and_true, or_false, false_or, not_false_eq_true, List.all_cons, List.all_nil, o1_r, o1_i, Bool.and_self, Bool.and_true, Nat.le_refl, Nat.zero_le, Nat.reduceLeDiff, w8, b1, b2, e1, m1, e2, g223_1009, g223_1013]
theorem op_12 (h : RW L xs τ) (hL : L ≤ 3072) (hi : i + 6 ≤ L) (hkc : kc ≤ 500000) (hks : ks ≤ 7000000) (hop : xs i &&& nQ 63 = nQ 12) : NxP L xs τ i kc ks o5 o6 := by
  have t1 : tkM τ 1 = (2, L) := h.1.2.1.1
  have x1 : ∀ j, rdM τ 1 j = xs j := h.1.2.1.2
  have hw : rdM τ 1 (nQ i).toNatClampNeg = xs i := by rw [nQ_nat (by omega), x1]
  have a0 : aOk 2 τ 1 (nQ i) := by
    simp (disch := omega) only [aOk, t1, nQ_neg, nQ_nat, leF, or_false, not_false_eq_true, and_true]
  have n0 : ¬ (nQ (tkM τ 1).2 - nQ 6 < nQ i) := by
    rw [t1, cnd_l hL (by omega)]
    omega
  have cj : ∀ j, j < 12 → ¬ rdM τ 1 (nQ i).toNatClampNeg &&& nQ 63 = nQ j := fun j hj => by
    rw [hw, hop, nQ_eq (by omega) (by omega)]
    omega
  have b1 : kc + 1 ≤ 601024 := by omega
  have b2 : ks + 6 ≤ 7293034 := by omega
  obtain ⟨τ1, τ2, k, v, e1, e2, hk3, hk, hv, hE, hR⟩ := s57 h 
  simp only [List.cons_append, List.nil_append] at e1
  have q1 : tkM τ1 1 = (2, L) := by
    rw [← hE.1]
    exact hR.1.2.1.1
  have q2 : ∀ j, rdM τ1 1 j = xs j := fun j => by
    rw [← hE.2 1 (by decide)]
    exact hR.1.2.1.2 j
  have m2 : tkM τ2 186 = (1, 5) := hR.1.1.2.2.2.2.1
  have m1 : tkM τ1 186 = (1, 5) := by
    rw [← hE.1]
    exact m2
  have m3 : tkM τ2 193 = (5, 1) := hR.1.1.2.2.1.2.2.2.2.2.2.2.2.2
  have e3 := d105 m2 hk
  refine ⟨τ2, kc + 1, ks + 6, some (.int (nQ k)), some (.int v), by omega, by omega, hR, ?_⟩
  refine (g223_23).trans ?_
  refine (if_pos (show (tkM τ 1).1 = 2 from congrArg (·.1) t1)).trans ?_
  refine (if_neg n0).trans ?_
  refine (if_pos a0).trans ?_
  refine (if_neg (cj 0 (by decide))).trans ?_
  refine (if_neg (cj 1 (by decide))).trans ?_
  refine (if_neg (cj 2 (by decide))).trans ?_
  refine (if_neg (cj 3 (by decide))).trans ?_
  refine (if_neg (cj 4 (by decide))).trans ?_
  refine (if_neg (cj 5 (by decide))).trans ?_
  refine (if_neg (cj 6 (by decide))).trans ?_
  refine (if_neg (cj 7 (by decide))).trans ?_
  refine (if_neg (cj 8 (by decide))).trans ?_
  refine (if_neg (cj 9 (by decide))).trans ?_
  refine (if_neg (cj 10 (by decide))).trans ?_
  refine (if_neg (cj 11 (by decide))).trans ?_
  refine (if_pos (show rdM τ 1 (nQ i).toNatClampNeg &&& nQ 63 = nQ 12 by rw [hw, hop])).trans ?_
  by_cases c : k = 0
  · have hv0 := hv c
    subst c
    simp (disch := omega) only [aOk, eq_self, nQ_nat, nQ_neg, nQ_add, leF, cn_l, Option.toList, List.cons_append, List.nil_append, if_true, if_false, true_and, and_true, or_false, false_or, not_false_eq_true, List.all_cons, List.all_nil, o1_r, o1_i, Bool.and_self, Bool.and_true, Nat.le_refl, Nat.zero_le, t1, x1, b1, b2, e1, q1, q2, m1, m2, m3, e2, e3, hv0, lg_r, g223_1023, g223_1029, g223_1035, g223_1059]
  · have c0 : (nQ k = nQ 0) = False := by rw [nQ_eq (by omega) (by decide)]; exact eq_false c
    simp (disch := omega) only [aOk, eq_self, nQ_nat, nQ_neg, nQ_add, leF, cn_l, Option.toList, List.cons_append, List.nil_append, if_true, if_false, true_and, and_true, or_false, false_or, not_false_eq_true, List.all_cons, List.all_nil, o1_r, o1_i, Bool.and_self, Bool.and_true, Nat.le_refl, Nat.zero_le, t1, x1, b1, b2, e1, q1, q2, m1, m2, m3, e2, e3, c0, g223_1023, g223_1029, g223_1035, g223_1059]
theorem op_13 (h : RW L xs τ) (hL : L ≤ 3072) (hi : i + 6 ≤ L) (hkc : kc ≤ 500000) (hks : ks ≤ 7000000) (hop : xs i &&& nQ 63 = nQ 13) : NxP L xs τ i kc ks o5 o6 := by
  have t1 : tkM τ 1 = (2, L) := h.1.2.1.1
  have x1 : ∀ j, rdM τ 1 j = xs j := h.1.2.1.2
  have hw : rdM τ 1 (nQ i).toNatClampNeg = xs i := by rw [nQ_nat (by omega), x1]
  have a0 : aOk 2 τ 1 (nQ i) := by
    simp (disch := omega) only [aOk, t1, nQ_neg, nQ_nat, leF, or_false, not_false_eq_true, and_true]
  have n0 : ¬ (nQ (tkM τ 1).2 - nQ 6 < nQ i) := by
    rw [t1, cnd_l hL (by omega)]
    omega
  have cj : ∀ j, j < 13 → ¬ rdM τ 1 (nQ i).toNatClampNeg &&& nQ 63 = nQ j := fun j hj => by
    rw [hw, hop, nQ_eq (by omega) (by omega)]
    omega
  have b1 : kc + 1 ≤ 601024 := by omega
  have b2 : ks + 6 ≤ 7293034 := by omega
  obtain ⟨τ1, τ2, k, v, e1, e2, hk3, hk, hv, hE, hR⟩ := s58 h 
  simp only [List.cons_append, List.nil_append] at e1
  have q1 : tkM τ1 1 = (2, L) := by
    rw [← hE.1]
    exact hR.1.2.1.1
  have q2 : ∀ j, rdM τ1 1 j = xs j := fun j => by
    rw [← hE.2 1 (by decide)]
    exact hR.1.2.1.2 j
  have m2 : tkM τ2 186 = (1, 5) := hR.1.1.2.2.2.2.1
  have m1 : tkM τ1 186 = (1, 5) := by
    rw [← hE.1]
    exact m2
  have m3 : tkM τ2 193 = (5, 1) := hR.1.1.2.2.1.2.2.2.2.2.2.2.2.2
  have e3 := d105 m2 hk
  refine ⟨τ2, kc + 1, ks + 6, some (.int (nQ k)), some (.int v), by omega, by omega, hR, ?_⟩
  refine (g223_23).trans ?_
  refine (if_pos (show (tkM τ 1).1 = 2 from congrArg (·.1) t1)).trans ?_
  refine (if_neg n0).trans ?_
  refine (if_pos a0).trans ?_
  refine (if_neg (cj 0 (by decide))).trans ?_
  refine (if_neg (cj 1 (by decide))).trans ?_
  refine (if_neg (cj 2 (by decide))).trans ?_
  refine (if_neg (cj 3 (by decide))).trans ?_
  refine (if_neg (cj 4 (by decide))).trans ?_
  refine (if_neg (cj 5 (by decide))).trans ?_
  refine (if_neg (cj 6 (by decide))).trans ?_
  refine (if_neg (cj 7 (by decide))).trans ?_
  refine (if_neg (cj 8 (by decide))).trans ?_
  refine (if_neg (cj 9 (by decide))).trans ?_
  refine (if_neg (cj 10 (by decide))).trans ?_
  refine (if_neg (cj 11 (by decide))).trans ?_
  refine (if_neg (cj 12 (by decide))).trans ?_
  refine (if_pos (show rdM τ 1 (nQ i).toNatClampNeg &&& nQ 63 = nQ 13 by rw [hw, hop])).trans ?_
  by_cases c : k = 0
  · have hv0 := hv c
    subst c
    simp (disch := omega) only [aOk, eq_self, nQ_nat, nQ_neg, nQ_add, leF, cn_l, Option.toList, List.cons_append, List.nil_append, if_true, if_false, true_and, and_true, or_false, false_or, not_false_eq_true, List.all_cons, List.all_nil, o1_r, o1_i, Bool.and_self, Bool.and_true, Nat.le_refl, Nat.zero_le, t1, x1, b1, b2, e1, q1, q2, m1, m2, m3, e2, e3, hv0, lg_r, g223_1067, g223_1073, g223_1079, g223_1103]
  · have c0 : (nQ k = nQ 0) = False := by rw [nQ_eq (by omega) (by decide)]; exact eq_false c
    simp (disch := omega) only [aOk, eq_self, nQ_nat, nQ_neg, nQ_add, leF, cn_l, Option.toList, List.cons_append, List.nil_append, if_true, if_false, true_and, and_true, or_false, false_or, not_false_eq_true, List.all_cons, List.all_nil, o1_r, o1_i, Bool.and_self, Bool.and_true, Nat.le_refl, Nat.zero_le, t1, x1, b1, b2, e1, q1, q2, m1, m2, m3, e2, e3, c0, g223_1067, g223_1073, g223_1079, g223_1103]
theorem op_14 (h : RW L xs τ) (hL : L ≤ 3072) (hi : i + 6 ≤ L) (hkc : kc ≤ 500000) (hks : ks ≤ 7000000) (hop : xs i &&& nQ 63 = nQ 14) : NxP L xs τ i kc ks o5 o6 := by
  have t1 : tkM τ 1 = (2, L) := h.1.2.1.1
  have x1 : ∀ j, rdM τ 1 j = xs j := h.1.2.1.2
  have hw : rdM τ 1 (nQ i).toNatClampNeg = xs i := by rw [nQ_nat (by omega), x1]
  have a0 : aOk 2 τ 1 (nQ i) := by
    simp (disch := omega) only [aOk, t1, nQ_neg, nQ_nat, leF, or_false, not_false_eq_true, and_true]
  have n0 : ¬ (nQ (tkM τ 1).2 - nQ 6 < nQ i) := by
    rw [t1, cnd_l hL (by omega)]
    omega
  have cj : ∀ j, j < 14 → ¬ rdM τ 1 (nQ i).toNatClampNeg &&& nQ 63 = nQ j := fun j hj => by
    rw [hw, hop, nQ_eq (by omega) (by omega)]
    omega
  have b1 : kc + 1 ≤ 601024 := by omega
  have b2 : ks + 6 ≤ 7293034 := by omega
  obtain ⟨τ1, τ2, k, v, e1, e2, hk3, hk, hv, hE, hR⟩ := s59 h (xs (i + 1))
  simp only [List.cons_append, List.nil_append] at e1
  have q1 : tkM τ1 1 = (2, L) := by
    rw [← hE.1]
    exact hR.1.2.1.1
  have q2 : ∀ j, rdM τ1 1 j = xs j := fun j => by
    rw [← hE.2 1 (by decide)]
    exact hR.1.2.1.2 j
  have m2 : tkM τ2 186 = (1, 5) := hR.1.1.2.2.2.2.1
  have m1 : tkM τ1 186 = (1, 5) := by
    rw [← hE.1]
    exact m2
  have m3 : tkM τ2 193 = (5, 1) := hR.1.1.2.2.1.2.2.2.2.2.2.2.2.2
  have e3 := d105 m2 hk
  refine ⟨τ2, kc + 1, ks + 6, some (.int (nQ k)), some (.int v), by omega, by omega, hR, ?_⟩
  refine (g223_23).trans ?_
  refine (if_pos (show (tkM τ 1).1 = 2 from congrArg (·.1) t1)).trans ?_
  refine (if_neg n0).trans ?_
  refine (if_pos a0).trans ?_
  refine (if_neg (cj 0 (by decide))).trans ?_
  refine (if_neg (cj 1 (by decide))).trans ?_
  refine (if_neg (cj 2 (by decide))).trans ?_
  refine (if_neg (cj 3 (by decide))).trans ?_
  refine (if_neg (cj 4 (by decide))).trans ?_
  refine (if_neg (cj 5 (by decide))).trans ?_
  refine (if_neg (cj 6 (by decide))).trans ?_
  refine (if_neg (cj 7 (by decide))).trans ?_
  refine (if_neg (cj 8 (by decide))).trans ?_
  refine (if_neg (cj 9 (by decide))).trans ?_
  refine (if_neg (cj 10 (by decide))).trans ?_
  refine (if_neg (cj 11 (by decide))).trans ?_
  refine (if_neg (cj 12 (by decide))).trans ?_
  refine (if_neg (cj 13 (by decide))).trans ?_
  refine (if_pos (show rdM τ 1 (nQ i).toNatClampNeg &&& nQ 63 = nQ 14 by rw [hw, hop])).trans ?_
  by_cases c : k = 0
  · have hv0 := hv c
    subst c
    simp (disch := omega) only [aOk, eq_self, nQ_nat, nQ_neg, nQ_add, leF, cn_l, Option.toList, List.cons_append, List.nil_append, if_true, if_false, true_and, and_true, or_false, false_or, not_false_eq_true, List.all_cons, List.all_nil, o1_r, o1_i, Bool.and_self, Bool.and_true, Nat.le_refl, Nat.zero_le, t1, x1, b1, b2, e1, q1, q2, m1, m2, m3, e2, e3, hv0, lg_r, g223_1117, g223_1129, g223_1135, g223_1159]
  · have c0 : (nQ k = nQ 0) = False := by rw [nQ_eq (by omega) (by decide)]; exact eq_false c
    simp (disch := omega) only [aOk, eq_self, nQ_nat, nQ_neg, nQ_add, leF, cn_l, Option.toList, List.cons_append, List.nil_append, if_true, if_false, true_and, and_true, or_false, false_or, not_false_eq_true, List.all_cons, List.all_nil, o1_r, o1_i, Bool.and_self, Bool.and_true, Nat.le_refl, Nat.zero_le, t1, x1, b1, b2, e1, q1, q2, m1, m2, m3, e2, e3, c0, g223_1117, g223_1129, g223_1135, g223_1159]
theorem op_15 (h : RW L xs τ) (hL : L ≤ 3072) (hi : i + 6 ≤ L) (hkc : kc ≤ 500000) (hks : ks ≤ 7000000) (hop : xs i &&& nQ 63 = nQ 15) : NxP L xs τ i kc ks o5 o6 := by
  have t1 : tkM τ 1 = (2, L) := h.1.2.1.1
  have x1 : ∀ j, rdM τ 1 j = xs j := h.1.2.1.2
  have hw : rdM τ 1 (nQ i).toNatClampNeg = xs i := by rw [nQ_nat (by omega), x1]
  have a0 : aOk 2 τ 1 (nQ i) := by
    simp (disch := omega) only [aOk, t1, nQ_neg, nQ_nat, leF, or_false, not_false_eq_true, and_true]
  have n0 : ¬ (nQ (tkM τ 1).2 - nQ 6 < nQ i) := by
    rw [t1, cnd_l hL (by omega)]
    omega
  have cj : ∀ j, j < 15 → ¬ rdM τ 1 (nQ i).toNatClampNeg &&& nQ 63 = nQ j := fun j hj => by
    rw [hw, hop, nQ_eq (by omega) (by omega)]
    omega
  have b1 : kc + 2 ≤ 601024 := by omega
  have b2 : ks + 12 ≤ 7293034 := by omega
  obtain ⟨τ1, τ2, k, v, e1, e2, hk3, hk, hv, hE, hR⟩ := s60 h (xs (i + 1))
  simp only [List.cons_append, List.nil_append] at e1
  have q1 : tkM τ1 1 = (2, L) := by
    rw [← hE.1]
    exact hR.1.2.1.1
  have q2 : ∀ j, rdM τ1 1 j = xs j := fun j => by
    rw [← hE.2 1 (by decide)]
    exact hR.1.2.1.2 j
  have m2 : tkM τ2 186 = (1, 5) := hR.1.1.2.2.2.2.1
  have m1 : tkM τ1 186 = (1, 5) := by
    rw [← hE.1]
    exact m2
  have m3 : tkM τ2 193 = (5, 1) := hR.1.1.2.2.1.2.2.2.2.2.2.2.2.2
  have e3 := d105 m2 hk
  refine ⟨τ2, kc + 2, ks + 12, some (.int (nQ k)), some (.int v), by omega, by omega, hR, ?_⟩
  refine (g223_23).trans ?_
  refine (if_pos (show (tkM τ 1).1 = 2 from congrArg (·.1) t1)).trans ?_
  refine (if_neg n0).trans ?_
  refine (if_pos a0).trans ?_
  refine (if_neg (cj 0 (by decide))).trans ?_
  refine (if_neg (cj 1 (by decide))).trans ?_
  refine (if_neg (cj 2 (by decide))).trans ?_
  refine (if_neg (cj 3 (by decide))).trans ?_
  refine (if_neg (cj 4 (by decide))).trans ?_
  refine (if_neg (cj 5 (by decide))).trans ?_
  refine (if_neg (cj 6 (by decide))).trans ?_
  refine (if_neg (cj 7 (by decide))).trans ?_
  refine (if_neg (cj 8 (by decide))).trans ?_
  refine (if_neg (cj 9 (by decide))).trans ?_
  refine (if_neg (cj 10 (by decide))).trans ?_
  refine (if_neg (cj 11 (by decide))).trans ?_
  refine (if_neg (cj 12 (by decide))).trans ?_
  refine (if_neg (cj 13 (by decide))).trans ?_
  refine (if_neg (cj 14 (by decide))).trans ?_
  refine (if_pos (show rdM τ 1 (nQ i).toNatClampNeg &&& nQ 63 = nQ 15 by rw [hw, hop])).trans ?_
  by_cases c : k = 0
  · have hv0 := hv c
    subst c
    simp (disch := omega) only [aOk, eq_self, nQ_nat, nQ_neg, nQ_add, leF, cn_l, Option.toList, List.cons_append, List.nil_append, if_true, if_false, true_and, and_true, or_false, false_or, not_false_eq_true, List.all_cons, List.all_nil, o1_r, o1_i, Bool.and_self, Bool.and_true, Nat.le_refl, Nat.zero_le, t1, x1, b1, b2, e1, q1, q2, m1, m2, m3, e2, e3, hv0, lg_r, g223_1173, g223_1185, g223_1191, g223_1215]
  · have c0 : (nQ k = nQ 0) = False := by rw [nQ_eq (by omega) (by decide)]; exact eq_false c
    simp (disch := omega) only [aOk, eq_self, nQ_nat, nQ_neg, nQ_add, leF, cn_l, Option.toList, List.cons_append, List.nil_append, if_true, if_false, true_and, and_true, or_false, false_or, not_false_eq_true, List.all_cons, List.all_nil, o1_r, o1_i, Bool.and_self, Bool.and_true, Nat.le_refl, Nat.zero_le, t1, x1, b1, b2, e1, q1, q2, m1, m2, m3, e2, e3, c0, g223_1173, g223_1185, g223_1191, g223_1215]
theorem op_16 (h : RW L xs τ) (hL : L ≤ 3072) (hi : i + 6 ≤ L) (hkc : kc ≤ 500000) (hks : ks ≤ 7000000) (hop : xs i &&& nQ 63 = nQ 16) : NxP L xs τ i kc ks o5 o6 := by
  have t1 : tkM τ 1 = (2, L) := h.1.2.1.1
  have x1 : ∀ j, rdM τ 1 j = xs j := h.1.2.1.2
  have hw : rdM τ 1 (nQ i).toNatClampNeg = xs i := by rw [nQ_nat (by omega), x1]
  have a0 : aOk 2 τ 1 (nQ i) := by
    simp (disch := omega) only [aOk, t1, nQ_neg, nQ_nat, leF, or_false, not_false_eq_true, and_true]
  have n0 : ¬ (nQ (tkM τ 1).2 - nQ 6 < nQ i) := by
    rw [t1, cnd_l hL (by omega)]
    omega
  have cj : ∀ j, j < 16 → ¬ rdM τ 1 (nQ i).toNatClampNeg &&& nQ 63 = nQ j := fun j hj => by
    rw [hw, hop, nQ_eq (by omega) (by omega)]
    omega
  have b1 : kc + 2 ≤ 601024 := by omega
  have b2 : ks + 12 ≤ 7293034 := by omega
  obtain ⟨τ1, τ2, k, v, e1, e2, hk3, hk, hv, hE, hR⟩ := s61 h (xs (i + 1)) (xs (i + 2))
  simp only [List.cons_append, List.nil_append] at e1
  have q1 : tkM τ1 1 = (2, L) := by
    rw [← hE.1]
    exact hR.1.2.1.1
  have q2 : ∀ j, rdM τ1 1 j = xs j := fun j => by
    rw [← hE.2 1 (by decide)]
    exact hR.1.2.1.2 j
  have m2 : tkM τ2 186 = (1, 5) := hR.1.1.2.2.2.2.1
  have m1 : tkM τ1 186 = (1, 5) := by
    rw [← hE.1]
    exact m2
  have m3 : tkM τ2 193 = (5, 1) := hR.1.1.2.2.1.2.2.2.2.2.2.2.2.2
  have e3 := d105 m2 hk
  refine ⟨τ2, kc + 2, ks + 12, some (.int (nQ k)), some (.int v), by omega, by omega, hR, ?_⟩
  refine (g223_23).trans ?_
  refine (if_pos (show (tkM τ 1).1 = 2 from congrArg (·.1) t1)).trans ?_
  refine (if_neg n0).trans ?_
  refine (if_pos a0).trans ?_
  refine (if_neg (cj 0 (by decide))).trans ?_
  refine (if_neg (cj 1 (by decide))).trans ?_
  refine (if_neg (cj 2 (by decide))).trans ?_
  refine (if_neg (cj 3 (by decide))).trans ?_
  refine (if_neg (cj 4 (by decide))).trans ?_
  refine (if_neg (cj 5 (by decide))).trans ?_
  refine (if_neg (cj 6 (by decide))).trans ?_
  refine (if_neg (cj 7 (by decide))).trans ?_
  refine (if_neg (cj 8 (by decide))).trans ?_
  refine (if_neg (cj 9 (by decide))).trans ?_
  refine (if_neg (cj 10 (by decide))).trans ?_
  refine (if_neg (cj 11 (by decide))).trans ?_
  refine (if_neg (cj 12 (by decide))).trans ?_
  refine (if_neg (cj 13 (by decide))).trans ?_
  refine (if_neg (cj 14 (by decide))).trans ?_
  refine (if_neg (cj 15 (by decide))).trans ?_
  refine (if_pos (show rdM τ 1 (nQ i).toNatClampNeg &&& nQ 63 = nQ 16 by rw [hw, hop])).trans ?_
  by_cases c : k = 0
  · have hv0 := hv c
    subst c
    simp (disch := omega) only [aOk, eq_self, nQ_nat, nQ_neg, nQ_add, leF, cn_l, Option.toList, List.cons_append, List.nil_append, if_true, if_false, true_and, and_true, or_false, false_or, not_false_eq_true, List.all_cons, List.all_nil, o1_r, o1_i, Bool.and_self, Bool.and_true, Nat.le_refl, Nat.zero_le, t1, x1, b1, b2, e1, q1, q2, m1, m2, m3, e2, e3, hv0, lg_r, g223_1235, g223_1253, g223_1259, g223_1283]
  · have c0 : (nQ k = nQ 0) = False := by rw [nQ_eq (by omega) (by decide)]; exact eq_false c
    simp (disch := omega) only [aOk, eq_self, nQ_nat, nQ_neg, nQ_add, leF, cn_l, Option.toList, List.cons_append, List.nil_append, if_true, if_false, true_and, and_true, or_false, false_or, not_false_eq_true, List.all_cons, List.all_nil, o1_r, o1_i, Bool.and_self, Bool.and_true, Nat.le_refl, Nat.zero_le, t1, x1, b1, b2, e1, q1, q2, m1, m2, m3, e2, e3, c0, g223_1235, g223_1253, g223_1259, g223_1283]
theorem op_17 (h : RW L xs τ) (hL : L ≤ 3072) (hi : i + 6 ≤ L) (hkc : kc ≤ 500000) (hks : ks ≤ 7000000) (hop : xs i &&& nQ 63 = nQ 17) : NxP L xs τ i kc ks o5 o6 := by
  have t1 : tkM τ 1 = (2, L) := h.1.2.1.1
  have x1 : ∀ j, rdM τ 1 j = xs j := h.1.2.1.2
  have hw : rdM τ 1 (nQ i).toNatClampNeg = xs i := by rw [nQ_nat (by omega), x1]
  have a0 : aOk 2 τ 1 (nQ i) := by
    simp (disch := omega) only [aOk, t1, nQ_neg, nQ_nat, leF, or_false, not_false_eq_true, and_true]
  have n0 : ¬ (nQ (tkM τ 1).2 - nQ 6 < nQ i) := by
    rw [t1, cnd_l hL (by omega)]
    omega
  have cj : ∀ j, j < 17 → ¬ rdM τ 1 (nQ i).toNatClampNeg &&& nQ 63 = nQ j := fun j hj => by
    rw [hw, hop, nQ_eq (by omega) (by omega)]
    omega
  have b1 : kc + 2 ≤ 601024 := by omega
  have b2 : ks + 12 ≤ 7293034 := by omega
  obtain ⟨τ1, τ2, k, v, e1, e2, hk3, hk, hv, hE, hR⟩ := s62 h (xs (i + 1)) (xs (i + 2))
  simp only [List.cons_append, List.nil_append] at e1
  have q1 : tkM τ1 1 = (2, L) := by
    rw [← hE.1]
    exact hR.1.2.1.1
  have q2 : ∀ j, rdM τ1 1 j = xs j := fun j => by
    rw [← hE.2 1 (by decide)]
    exact hR.1.2.1.2 j
  have m2 : tkM τ2 186 = (1, 5) := hR.1.1.2.2.2.2.1
  have m1 : tkM τ1 186 = (1, 5) := by
    rw [← hE.1]
    exact m2
  have m3 : tkM τ2 193 = (5, 1) := hR.1.1.2.2.1.2.2.2.2.2.2.2.2.2
  have e3 := d105 m2 hk
  refine ⟨τ2, kc + 2, ks + 12, some (.int (nQ k)), some (.int v), by omega, by omega, hR, ?_⟩
  refine (g223_23).trans ?_
  refine (if_pos (show (tkM τ 1).1 = 2 from congrArg (·.1) t1)).trans ?_
  refine (if_neg n0).trans ?_
  refine (if_pos a0).trans ?_
  refine (if_neg (cj 0 (by decide))).trans ?_
  refine (if_neg (cj 1 (by decide))).trans ?_
  refine (if_neg (cj 2 (by decide))).trans ?_
  refine (if_neg (cj 3 (by decide))).trans ?_
  refine (if_neg (cj 4 (by decide))).trans ?_
  refine (if_neg (cj 5 (by decide))).trans ?_
  refine (if_neg (cj 6 (by decide))).trans ?_
  refine (if_neg (cj 7 (by decide))).trans ?_
  refine (if_neg (cj 8 (by decide))).trans ?_
  refine (if_neg (cj 9 (by decide))).trans ?_
  refine (if_neg (cj 10 (by decide))).trans ?_
  refine (if_neg (cj 11 (by decide))).trans ?_
  refine (if_neg (cj 12 (by decide))).trans ?_
  refine (if_neg (cj 13 (by decide))).trans ?_
  refine (if_neg (cj 14 (by decide))).trans ?_
  refine (if_neg (cj 15 (by decide))).trans ?_
  refine (if_neg (cj 16 (by decide))).trans ?_
  refine (if_pos (show rdM τ 1 (nQ i).toNatClampNeg &&& nQ 63 = nQ 17 by rw [hw, hop])).trans ?_
  by_cases c : k = 0
  · have hv0 := hv c
    subst c
    simp (disch := omega) only [aOk, eq_self, nQ_nat, nQ_neg, nQ_add, leF, cn_l, Option.toList, List.cons_append, List.nil_append, if_true, if_false, true_and, and_true, or_false, false_or, not_false_eq_true, List.all_cons, List.all_nil, o1_r, o1_i, Bool.and_self, Bool.and_true, Nat.le_refl, Nat.zero_le, t1, x1, b1, b2, e1, q1, q2, m1, m2, m3, e2, e3, hv0, lg_r, g223_1303, g223_1321, g223_1327, g223_1351]
  · have c0 : (nQ k = nQ 0) = False := by rw [nQ_eq (by omega) (by decide)]; exact eq_false c
    simp (disch := omega) only [aOk, eq_self, nQ_nat, nQ_neg, nQ_add, leF, cn_l, Option.toList, List.cons_append, List.nil_append, if_true, if_false, true_and, and_true, or_false, false_or, not_false_eq_true, List.all_cons, List.all_nil, o1_r, o1_i, Bool.and_self, Bool.and_true, Nat.le_refl, Nat.zero_le, t1, x1, b1, b2, e1, q1, q2, m1, m2, m3, e2, e3, c0, g223_1303, g223_1321, g223_1327, g223_1351]
theorem op_18 (h : RW L xs τ) (hL : L ≤ 3072) (hi : i + 6 ≤ L) (hkc : kc ≤ 500000) (hks : ks ≤ 7000000) (hop : xs i &&& nQ 63 = nQ 18) : NxP L xs τ i kc ks o5 o6 := by
  have t1 : tkM τ 1 = (2, L) := h.1.2.1.1
  have x1 : ∀ j, rdM τ 1 j = xs j := h.1.2.1.2
  have hw : rdM τ 1 (nQ i).toNatClampNeg = xs i := by rw [nQ_nat (by omega), x1]
  have a0 : aOk 2 τ 1 (nQ i) := by
    simp (disch := omega) only [aOk, t1, nQ_neg, nQ_nat, leF, or_false, not_false_eq_true, and_true]
  have n0 : ¬ (nQ (tkM τ 1).2 - nQ 6 < nQ i) := by
    rw [t1, cnd_l hL (by omega)]
    omega
  have cj : ∀ j, j < 18 → ¬ rdM τ 1 (nQ i).toNatClampNeg &&& nQ 63 = nQ j := fun j hj => by
    rw [hw, hop, nQ_eq (by omega) (by omega)]
    omega
  have b1 : kc + 2 ≤ 601024 := by omega
  have b2 : ks + 12 ≤ 7293034 := by omega
  obtain ⟨τ1, τ2, k, v, e1, e2, hk3, hk, hv, hE, hR⟩ := s63 h (xs (i + 1)) (xs (i + 2))
  simp only [List.cons_append, List.nil_append] at e1
  have q1 : tkM τ1 1 = (2, L) := by
    rw [← hE.1]
    exact hR.1.2.1.1
  have q2 : ∀ j, rdM τ1 1 j = xs j := fun j => by
    rw [← hE.2 1 (by decide)]
    exact hR.1.2.1.2 j
  have m2 : tkM τ2 186 = (1, 5) := hR.1.1.2.2.2.2.1
  have m1 : tkM τ1 186 = (1, 5) := by
    rw [← hE.1]
    exact m2
  have m3 : tkM τ2 193 = (5, 1) := hR.1.1.2.2.1.2.2.2.2.2.2.2.2.2
  have e3 := d105 m2 hk
  refine ⟨τ2, kc + 2, ks + 12, some (.int (nQ k)), some (.int v), by omega, by omega, hR, ?_⟩
  refine (g223_23).trans ?_
  refine (if_pos (show (tkM τ 1).1 = 2 from congrArg (·.1) t1)).trans ?_
  refine (if_neg n0).trans ?_
  refine (if_pos a0).trans ?_
  refine (if_neg (cj 0 (by decide))).trans ?_
  refine (if_neg (cj 1 (by decide))).trans ?_
  refine (if_neg (cj 2 (by decide))).trans ?_
  refine (if_neg (cj 3 (by decide))).trans ?_
  refine (if_neg (cj 4 (by decide))).trans ?_
  refine (if_neg (cj 5 (by decide))).trans ?_
  refine (if_neg (cj 6 (by decide))).trans ?_
  refine (if_neg (cj 7 (by decide))).trans ?_
  refine (if_neg (cj 8 (by decide))).trans ?_
  refine (if_neg (cj 9 (by decide))).trans ?_
  refine (if_neg (cj 10 (by decide))).trans ?_
  refine (if_neg (cj 11 (by decide))).trans ?_
  refine (if_neg (cj 12 (by decide))).trans ?_
  refine (if_neg (cj 13 (by decide))).trans ?_
  refine (if_neg (cj 14 (by decide))).trans ?_
  refine (if_neg (cj 15 (by decide))).trans ?_
  refine (if_neg (cj 16 (by decide))).trans ?_
  refine (if_neg (cj 17 (by decide))).trans ?_
  refine (if_pos (show rdM τ 1 (nQ i).toNatClampNeg &&& nQ 63 = nQ 18 by rw [hw, hop])).trans ?_
  by_cases c : k = 0
  · have hv0 := hv c
    subst c
    simp (disch := omega) only [aOk, eq_self, nQ_nat, nQ_neg, nQ_add, leF, cn_l, Option.toList, List.cons_append, List.nil_append, if_true, if_false, true_and, and_true, or_false, false_or, not_false_eq_true, List.all_cons, List.all_nil, o1_r, o1_i, Bool.and_self, Bool.and_true, Nat.le_refl, Nat.zero_le, t1, x1, b1, b2, e1, q1, q2, m1, m2, m3, e2, e3, hv0, lg_r, g223_1371, g223_1389, g223_1395, g223_1419]
  · have c0 : (nQ k = nQ 0) = False := by rw [nQ_eq (by omega) (by decide)]; exact eq_false c
    simp (disch := omega) only [aOk, eq_self, nQ_nat, nQ_neg, nQ_add, leF, cn_l, Option.toList, List.cons_append, List.nil_append, if_true, if_false, true_and, and_true, or_false, false_or, not_false_eq_true, List.all_cons, List.all_nil, o1_r, o1_i, Bool.and_self, Bool.and_true, Nat.le_refl, Nat.zero_le, t1, x1, b1, b2, e1, q1, q2, m1, m2, m3, e2, e3, c0, g223_1371, g223_1389, g223_1395, g223_1419]
theorem op_19 (h : RW L xs τ) (hL : L ≤ 3072) (hi : i + 6 ≤ L) (hkc : kc ≤ 500000) (hks : ks ≤ 7000000) (hop : xs i &&& nQ 63 = nQ 19) : NxP L xs τ i kc ks o5 o6 := by
  have t1 : tkM τ 1 = (2, L) := h.1.2.1.1
  have x1 : ∀ j, rdM τ 1 j = xs j := h.1.2.1.2
  have hw : rdM τ 1 (nQ i).toNatClampNeg = xs i := by rw [nQ_nat (by omega), x1]
  have a0 : aOk 2 τ 1 (nQ i) := by
    simp (disch := omega) only [aOk, t1, nQ_neg, nQ_nat, leF, or_false, not_false_eq_true, and_true]
  have n0 : ¬ (nQ (tkM τ 1).2 - nQ 6 < nQ i) := by
    rw [t1, cnd_l hL (by omega)]
    omega
  have cj : ∀ j, j < 19 → ¬ rdM τ 1 (nQ i).toNatClampNeg &&& nQ 63 = nQ j := fun j hj => by
    rw [hw, hop, nQ_eq (by omega) (by omega)]
    omega
  have b1 : kc + 2 ≤ 601024 := by omega
  have b2 : ks + 12 ≤ 7293034 := by omega
  obtain ⟨τ1, τ2, k, v, e1, e2, hk3, hk, hv, hE, hR⟩ := s64 h (xs (i + 1)) (xs (i + 2))
  simp only [List.cons_append, List.nil_append] at e1
  have q1 : tkM τ1 1 = (2, L) := by
    rw [← hE.1]
    exact hR.1.2.1.1
  have q2 : ∀ j, rdM τ1 1 j = xs j := fun j => by
    rw [← hE.2 1 (by decide)]
    exact hR.1.2.1.2 j
  have m2 : tkM τ2 186 = (1, 5) := hR.1.1.2.2.2.2.1
  have m1 : tkM τ1 186 = (1, 5) := by
    rw [← hE.1]
    exact m2
  have m3 : tkM τ2 193 = (5, 1) := hR.1.1.2.2.1.2.2.2.2.2.2.2.2.2
  have e3 := d105 m2 hk
  refine ⟨τ2, kc + 2, ks + 12, some (.int (nQ k)), some (.int v), by omega, by omega, hR, ?_⟩
  refine (g223_23).trans ?_
  refine (if_pos (show (tkM τ 1).1 = 2 from congrArg (·.1) t1)).trans ?_
  refine (if_neg n0).trans ?_
  refine (if_pos a0).trans ?_
  refine (if_neg (cj 0 (by decide))).trans ?_
  refine (if_neg (cj 1 (by decide))).trans ?_
  refine (if_neg (cj 2 (by decide))).trans ?_
  refine (if_neg (cj 3 (by decide))).trans ?_
  refine (if_neg (cj 4 (by decide))).trans ?_
  refine (if_neg (cj 5 (by decide))).trans ?_
  refine (if_neg (cj 6 (by decide))).trans ?_
  refine (if_neg (cj 7 (by decide))).trans ?_
  refine (if_neg (cj 8 (by decide))).trans ?_
  refine (if_neg (cj 9 (by decide))).trans ?_
  refine (if_neg (cj 10 (by decide))).trans ?_
  refine (if_neg (cj 11 (by decide))).trans ?_
  refine (if_neg (cj 12 (by decide))).trans ?_
  refine (if_neg (cj 13 (by decide))).trans ?_
  refine (if_neg (cj 14 (by decide))).trans ?_
  refine (if_neg (cj 15 (by decide))).trans ?_
  refine (if_neg (cj 16 (by decide))).trans ?_
  refine (if_neg (cj 17 (by decide))).trans ?_
  refine (if_neg (cj 18 (by decide))).trans ?_
  refine (if_pos (show rdM τ 1 (nQ i).toNatClampNeg &&& nQ 63 = nQ 19 by rw [hw, hop])).trans ?_
  by_cases c : k = 0
  · have hv0 := hv c
    subst c
    simp (disch := omega) only [aOk, eq_self, nQ_nat, nQ_neg, nQ_add, leF, cn_l, Option.toList, List.cons_append, List.nil_append, if_true, if_false, true_and, and_true, or_false, false_or, not_false_eq_true, List.all_cons, List.all_nil, o1_r, o1_i, Bool.and_self, Bool.and_true, Nat.le_refl, Nat.zero_le, t1, x1, b1, b2, e1, q1, q2, m1, m2, m3, e2, e3, hv0, lg_r, g223_1439, g223_1457, g223_1463, g223_1487]
  · have c0 : (nQ k = nQ 0) = False := by rw [nQ_eq (by omega) (by decide)]; exact eq_false c
    simp (disch := omega) only [aOk, eq_self, nQ_nat, nQ_neg, nQ_add, leF, cn_l, Option.toList, List.cons_append, List.nil_append, if_true, if_false, true_and, and_true, or_false, false_or, not_false_eq_true, List.all_cons, List.all_nil, o1_r, o1_i, Bool.and_self, Bool.and_true, Nat.le_refl, Nat.zero_le, t1, x1, b1, b2, e1, q1, q2, m1, m2, m3, e2, e3, c0, g223_1439, g223_1457, g223_1463, g223_1487]
theorem op_20 (h : RW L xs τ) (hL : L ≤ 3072) (hi : i + 6 ≤ L) (hkc : kc ≤ 500000) (hks : ks ≤ 7000000) (hop : xs i &&& nQ 63 = nQ 20) : NxP L xs τ i kc ks o5 o6 := by
  have t1 : tkM τ 1 = (2, L) := h.1.2.1.1
  have x1 : ∀ j, rdM τ 1 j = xs j := h.1.2.1.2
  have hw : rdM τ 1 (nQ i).toNatClampNeg = xs i := by rw [nQ_nat (by omega), x1]
  have a0 : aOk 2 τ 1 (nQ i) := by
    simp (disch := omega) only [aOk, t1, nQ_neg, nQ_nat, leF, or_false, not_false_eq_true, and_true]
  have n0 : ¬ (nQ (tkM τ 1).2 - nQ 6 < nQ i) := by
    rw [t1, cnd_l hL (by omega)]
    omega
  have cj : ∀ j, j < 20 → ¬ rdM τ 1 (nQ i).toNatClampNeg &&& nQ 63 = nQ j := fun j hj => by
    rw [hw, hop, nQ_eq (by omega) (by omega)]
    omega
  have b1 : kc + 2 ≤ 601024 := by omega
  have b2 : ks + 12 ≤ 7293034 := by omega
  obtain ⟨τ1, τ2, k, v, e1, e2, hk3, hk, hv, hE, hR⟩ := s65 h (xs (i + 1)) (xs (i + 2))
  simp only [List.cons_append, List.nil_append] at e1
  have q1 : tkM τ1 1 = (2, L) := by
    rw [← hE.1]
    exact hR.1.2.1.1
  have q2 : ∀ j, rdM τ1 1 j = xs j := fun j => by
    rw [← hE.2 1 (by decide)]
    exact hR.1.2.1.2 j
  have m2 : tkM τ2 186 = (1, 5) := hR.1.1.2.2.2.2.1
  have m1 : tkM τ1 186 = (1, 5) := by
    rw [← hE.1]
    exact m2
  have m3 : tkM τ2 193 = (5, 1) := hR.1.1.2.2.1.2.2.2.2.2.2.2.2.2
  have e3 := d105 m2 hk
  refine ⟨τ2, kc + 2, ks + 12, some (.int (nQ k)), some (.int v), by omega, by omega, hR, ?_⟩
  refine (g223_23).trans ?_
  refine (if_pos (show (tkM τ 1).1 = 2 from congrArg (·.1) t1)).trans ?_
  refine (if_neg n0).trans ?_
  refine (if_pos a0).trans ?_
  refine (if_neg (cj 0 (by decide))).trans ?_
  refine (if_neg (cj 1 (by decide))).trans ?_
  refine (if_neg (cj 2 (by decide))).trans ?_
  refine (if_neg (cj 3 (by decide))).trans ?_
  refine (if_neg (cj 4 (by decide))).trans ?_
  refine (if_neg (cj 5 (by decide))).trans ?_
  refine (if_neg (cj 6 (by decide))).trans ?_
  refine (if_neg (cj 7 (by decide))).trans ?_
  refine (if_neg (cj 8 (by decide))).trans ?_
  refine (if_neg (cj 9 (by decide))).trans ?_
  refine (if_neg (cj 10 (by decide))).trans ?_
  refine (if_neg (cj 11 (by decide))).trans ?_
  refine (if_neg (cj 12 (by decide))).trans ?_
  refine (if_neg (cj 13 (by decide))).trans ?_
  refine (if_neg (cj 14 (by decide))).trans ?_
  refine (if_neg (cj 15 (by decide))).trans ?_
  refine (if_neg (cj 16 (by decide))).trans ?_
  refine (if_neg (cj 17 (by decide))).trans ?_
  refine (if_neg (cj 18 (by decide))).trans ?_
  refine (if_neg (cj 19 (by decide))).trans ?_
  refine (if_pos (show rdM τ 1 (nQ i).toNatClampNeg &&& nQ 63 = nQ 20 by rw [hw, hop])).trans ?_
  by_cases c : k = 0
  · have hv0 := hv c
    subst c
    simp (disch := omega) only [aOk, eq_self, nQ_nat, nQ_neg, nQ_add, leF, cn_l, Option.toList, List.cons_append, List.nil_append, if_true, if_false, true_and, and_true, or_false, false_or, not_false_eq_true, List.all_cons, List.all_nil, o1_r, o1_i, Bool.and_self, Bool.and_true, Nat.le_refl, Nat.zero_le, t1, x1, b1, b2, e1, q1, q2, m1, m2, m3, e2, e3, hv0, lg_r, g223_1507, g223_1525, g223_1531, g223_1555]
  · have c0 : (nQ k = nQ 0) = False := by rw [nQ_eq (by omega) (by decide)]; exact eq_false c
    simp (disch := omega) only [aOk, eq_self, nQ_nat, nQ_neg, nQ_add, leF, cn_l, Option.toList, List.cons_append, List.nil_append, if_true, if_false, true_and, and_true, or_false, false_or, not_false_eq_true, List.all_cons, List.all_nil, o1_r, o1_i, Bool.and_self, Bool.and_true, Nat.le_refl, Nat.zero_le, t1, x1, b1, b2, e1, q1, q2, m1, m2, m3, e2, e3, c0, g223_1507, g223_1525, g223_1531, g223_1555]
theorem op_21 (h : RW L xs τ) (hL : L ≤ 3072) (hi : i + 6 ≤ L) (hkc : kc ≤ 500000) (hks : ks ≤ 7000000) (hop : xs i &&& nQ 63 = nQ 21) : NxP L xs τ i kc ks o5 o6 := by
  have t1 : tkM τ 1 = (2, L) := h.1.2.1.1
  have x1 : ∀ j, rdM τ 1 j = xs j := h.1.2.1.2
  have hw : rdM τ 1 (nQ i).toNatClampNeg = xs i := by rw [nQ_nat (by omega), x1]
  have a0 : aOk 2 τ 1 (nQ i) := by
    simp (disch := omega) only [aOk, t1, nQ_neg, nQ_nat, leF, or_false, not_false_eq_true, and_true]
  have n0 : ¬ (nQ (tkM τ 1).2 - nQ 6 < nQ i) := by
    rw [t1, cnd_l hL (by omega)]
    omega
  have cj : ∀ j, j < 21 → ¬ rdM τ 1 (nQ i).toNatClampNeg &&& nQ 63 = nQ j := fun j hj => by
    rw [hw, hop, nQ_eq (by omega) (by omega)]
    omega
  have b1 : kc + 2 ≤ 601024 := by omega
  have b2 : ks + 12 ≤ 7293034 := by omega
  obtain ⟨τ1, τ2, k, v, e1, e2, hk3, hk, hv, hE, hR⟩ := s66 h (xs (i + 1)) (xs (i + 2))
  simp only [List.cons_append, List.nil_append] at e1
  have q1 : tkM τ1 1 = (2, L) := by
    rw [← hE.1]
    exact hR.1.2.1.1
  have q2 : ∀ j, rdM τ1 1 j = xs j := fun j => by
    rw [← hE.2 1 (by decide)]
    exact hR.1.2.1.2 j
  have m2 : tkM τ2 186 = (1, 5) := hR.1.1.2.2.2.2.1
  have m1 : tkM τ1 186 = (1, 5) := by
    rw [← hE.1]
    exact m2
  have m3 : tkM τ2 193 = (5, 1) := hR.1.1.2.2.1.2.2.2.2.2.2.2.2.2
  have e3 := d105 m2 hk
  refine ⟨τ2, kc + 2, ks + 12, some (.int (nQ k)), some (.int v), by omega, by omega, hR, ?_⟩
  refine (g223_23).trans ?_
  refine (if_pos (show (tkM τ 1).1 = 2 from congrArg (·.1) t1)).trans ?_
  refine (if_neg n0).trans ?_
  refine (if_pos a0).trans ?_
  refine (if_neg (cj 0 (by decide))).trans ?_
  refine (if_neg (cj 1 (by decide))).trans ?_
  refine (if_neg (cj 2 (by decide))).trans ?_
  refine (if_neg (cj 3 (by decide))).trans ?_
  refine (if_neg (cj 4 (by decide))).trans ?_
  refine (if_neg (cj 5 (by decide))).trans ?_
  refine (if_neg (cj 6 (by decide))).trans ?_
  refine (if_neg (cj 7 (by decide))).trans ?_
  refine (if_neg (cj 8 (by decide))).trans ?_
  refine (if_neg (cj 9 (by decide))).trans ?_
  refine (if_neg (cj 10 (by decide))).trans ?_
  refine (if_neg (cj 11 (by decide))).trans ?_
  refine (if_neg (cj 12 (by decide))).trans ?_
  refine (if_neg (cj 13 (by decide))).trans ?_
  refine (if_neg (cj 14 (by decide))).trans ?_
  refine (if_neg (cj 15 (by decide))).trans ?_
  refine (if_neg (cj 16 (by decide))).trans ?_
  refine (if_neg (cj 17 (by decide))).trans ?_
  refine (if_neg (cj 18 (by decide))).trans ?_
  refine (if_neg (cj 19 (by decide))).trans ?_
  refine (if_neg (cj 20 (by decide))).trans ?_
  refine (if_pos (show rdM τ 1 (nQ i).toNatClampNeg &&& nQ 63 = nQ 21 by rw [hw, hop])).trans ?_
  by_cases c : k = 0
  · have hv0 := hv c
    subst c
    simp (disch := omega) only [aOk, eq_self, nQ_nat, nQ_neg, nQ_add, leF, cn_l, Option.toList, List.cons_append, List.nil_append, if_true, if_false, true_and, and_true, or_false, false_or, not_false_eq_true, List.all_cons, List.all_nil, o1_r, o1_i, Bool.and_self, Bool.and_true, Nat.le_refl, Nat.zero_le, t1, x1, b1, b2, e1, q1, q2, m1, m2, m3, e2, e3, hv0, lg_r, g223_1575, g223_1593, g223_1599, g223_1623]
  · have c0 : (nQ k = nQ 0) = False := by rw [nQ_eq (by omega) (by decide)]; exact eq_false c
    simp (disch := omega) only [aOk, eq_self, nQ_nat, nQ_neg, nQ_add, leF, cn_l, Option.toList, List.cons_append, List.nil_append, if_true, if_false, true_and, and_true, or_false, false_or, not_false_eq_true, List.all_cons, List.all_nil, o1_r, o1_i, Bool.and_self, Bool.and_true, Nat.le_refl, Nat.zero_le, t1, x1, b1, b2, e1, q1, q2, m1, m2, m3, e2, e3, c0, g223_1575, g223_1593, g223_1599, g223_1623]
theorem op_22 (h : RW L xs τ) (hL : L ≤ 3072) (hi : i + 6 ≤ L) (hkc : kc ≤ 500000) (hks : ks ≤ 7000000) (hop : xs i &&& nQ 63 = nQ 22) : NxP L xs τ i kc ks o5 o6 := by
  have t1 : tkM τ 1 = (2, L) := h.1.2.1.1
  have x1 : ∀ j, rdM τ 1 j = xs j := h.1.2.1.2
  have hw : rdM τ 1 (nQ i).toNatClampNeg = xs i := by rw [nQ_nat (by omega), x1]
  have a0 : aOk 2 τ 1 (nQ i) := by
    simp (disch := omega) only [aOk, t1, nQ_neg, nQ_nat, leF, or_false, not_false_eq_true, and_true]
  have n0 : ¬ (nQ (tkM τ 1).2 - nQ 6 < nQ i) := by
    rw [t1, cnd_l hL (by omega)]
    omega
  have cj : ∀ j, j < 22 → ¬ rdM τ 1 (nQ i).toNatClampNeg &&& nQ 63 = nQ j := fun j hj => by
    rw [hw, hop, nQ_eq (by omega) (by omega)]
    omega
  have b1 : kc + 2 ≤ 601024 := by omega
  have b2 : ks + 12 ≤ 7293034 := by omega
  obtain ⟨τ1, τ2, k, v, e1, e2, hk3, hk, hv, hE, hR⟩ := s67 h (xs (i + 1)) (xs (i + 2))
  simp only [List.cons_append, List.nil_append] at e1
  have q1 : tkM τ1 1 = (2, L) := by
    rw [← hE.1]
    exact hR.1.2.1.1
  have q2 : ∀ j, rdM τ1 1 j = xs j := fun j => by
    rw [← hE.2 1 (by decide)]
    exact hR.1.2.1.2 j
  have m2 : tkM τ2 186 = (1, 5) := hR.1.1.2.2.2.2.1
  have m1 : tkM τ1 186 = (1, 5) := by
    rw [← hE.1]
    exact m2
  have m3 : tkM τ2 193 = (5, 1) := hR.1.1.2.2.1.2.2.2.2.2.2.2.2.2
  have e3 := d105 m2 hk
  refine ⟨τ2, kc + 2, ks + 12, some (.int (nQ k)), some (.int v), by omega, by omega, hR, ?_⟩
  refine (g223_23).trans ?_
  refine (if_pos (show (tkM τ 1).1 = 2 from congrArg (·.1) t1)).trans ?_
  refine (if_neg n0).trans ?_
  refine (if_pos a0).trans ?_
  refine (if_neg (cj 0 (by decide))).trans ?_
  refine (if_neg (cj 1 (by decide))).trans ?_
  refine (if_neg (cj 2 (by decide))).trans ?_
  refine (if_neg (cj 3 (by decide))).trans ?_
  refine (if_neg (cj 4 (by decide))).trans ?_
  refine (if_neg (cj 5 (by decide))).trans ?_
  refine (if_neg (cj 6 (by decide))).trans ?_
  refine (if_neg (cj 7 (by decide))).trans ?_
  refine (if_neg (cj 8 (by decide))).trans ?_
  refine (if_neg (cj 9 (by decide))).trans ?_
  refine (if_neg (cj 10 (by decide))).trans ?_
  refine (if_neg (cj 11 (by decide))).trans ?_
  refine (if_neg (cj 12 (by decide))).trans ?_
  refine (if_neg (cj 13 (by decide))).trans ?_
  refine (if_neg (cj 14 (by decide))).trans ?_
  refine (if_neg (cj 15 (by decide))).trans ?_
  refine (if_neg (cj 16 (by decide))).trans ?_
  refine (if_neg (cj 17 (by decide))).trans ?_
  refine (if_neg (cj 18 (by decide))).trans ?_
  refine (if_neg (cj 19 (by decide))).trans ?_
  refine (if_neg (cj 20 (by decide))).trans ?_
  refine (if_neg (cj 21 (by decide))).trans ?_
  refine (if_pos (show rdM τ 1 (nQ i).toNatClampNeg &&& nQ 63 = nQ 22 by rw [hw, hop])).trans ?_
  by_cases c : k = 0
  · have hv0 := hv c
    subst c
    simp (disch := omega) only [aOk, eq_self, nQ_nat, nQ_neg, nQ_add, leF, cn_l, Option.toList, List.cons_append, List.nil_append, if_true, if_false, true_and, and_true, or_false, false_or, not_false_eq_true, List.all_cons, List.all_nil, o1_r, o1_i, Bool.and_self, Bool.and_true, Nat.le_refl, Nat.zero_le, t1, x1, b1, b2, e1, q1, q2, m1, m2, m3, e2, e3, hv0, lg_r, g223_1643, g223_1661, g223_1667, g223_1691]
  · have c0 : (nQ k = nQ 0) = False := by rw [nQ_eq (by omega) (by decide)]; exact eq_false c
    simp (disch := omega) only [aOk, eq_self, nQ_nat, nQ_neg, nQ_add, leF, cn_l, Option.toList, List.cons_append, List.nil_append, if_true, if_false, true_and, and_true, or_false, false_or, not_false_eq_true, List.all_cons, List.all_nil, o1_r, o1_i, Bool.and_self, Bool.and_true, Nat.le_refl, Nat.zero_le, t1, x1, b1, b2, e1, q1, q2, m1, m2, m3, e2, e3, c0, g223_1643, g223_1661, g223_1667, g223_1691]
theorem op_23 (h : RW L xs τ) (hL : L ≤ 3072) (hi : i + 6 ≤ L) (hkc : kc ≤ 500000) (hks : ks ≤ 7000000) (hop : xs i &&& nQ 63 = nQ 23) : NxP L xs τ i kc ks o5 o6 := by
  have t1 : tkM τ 1 = (2, L) := h.1.2.1.1
  have x1 : ∀ j, rdM τ 1 j = xs j := h.1.2.1.2
  have hw : rdM τ 1 (nQ i).toNatClampNeg = xs i := by rw [nQ_nat (by omega), x1]
  have a0 : aOk 2 τ 1 (nQ i) := by
    simp (disch := omega) only [aOk, t1, nQ_neg, nQ_nat, leF, or_false, not_false_eq_true, and_true]
  have n0 : ¬ (nQ (tkM τ 1).2 - nQ 6 < nQ i) := by
    rw [t1, cnd_l hL (by omega)]
    omega
  have cj : ∀ j, j < 23 → ¬ rdM τ 1 (nQ i).toNatClampNeg &&& nQ 63 = nQ j := fun j hj => by
    rw [hw, hop, nQ_eq (by omega) (by omega)]
    omega
  have b1 : kc + 1 ≤ 601024 := by omega
  have b2 : ks + 6 ≤ 7293034 := by omega
  obtain ⟨τ1, τ2, k, v, e1, e2, hk3, hk, hv, hE, hR⟩ := s68 h (xs (i + 1))
  simp only [List.cons_append, List.nil_append] at e1
  have q1 : tkM τ1 1 = (2, L) := by
    rw [← hE.1]
    exact hR.1.2.1.1
  have q2 : ∀ j, rdM τ1 1 j = xs j := fun j => by
    rw [← hE.2 1 (by decide)]
    exact hR.1.2.1.2 j
  have m2 : tkM τ2 186 = (1, 5) := hR.1.1.2.2.2.2.1
  have m1 : tkM τ1 186 = (1, 5) := by
    rw [← hE.1]
    exact m2
  have m3 : tkM τ2 193 = (5, 1) := hR.1.1.2.2.1.2.2.2.2.2.2.2.2.2
  have e3 := d105 m2 hk
  refine ⟨τ2, kc + 1, ks + 6, some (.int (nQ k)), some (.int v), by omega, by omega, hR, ?_⟩
  refine (g223_23).trans ?_
  refine (if_pos (show (tkM τ 1).1 = 2 from congrArg (·.1) t1)).trans ?_
  refine (if_neg n0).trans ?_
  refine (if_pos a0).trans ?_
  refine (if_neg (cj 0 (by decide))).trans ?_
  refine (if_neg (cj 1 (by decide))).trans ?_
  refine (if_neg (cj 2 (by decide))).trans ?_
  refine (if_neg (cj 3 (by decide))).trans ?_
  refine (if_neg (cj 4 (by decide))).trans ?_
  refine (if_neg (cj 5 (by decide))).trans ?_
  refine (if_neg (cj 6 (by decide))).trans ?_
  refine (if_neg (cj 7 (by decide))).trans ?_
  refine (if_neg (cj 8 (by decide))).trans ?_
  refine (if_neg (cj 9 (by decide))).trans ?_
  refine (if_neg (cj 10 (by decide))).trans ?_
  refine (if_neg (cj 11 (by decide))).trans ?_
  refine (if_neg (cj 12 (by decide))).trans ?_
  refine (if_neg (cj 13 (by decide))).trans ?_
  refine (if_neg (cj 14 (by decide))).trans ?_
  refine (if_neg (cj 15 (by decide))).trans ?_
  refine (if_neg (cj 16 (by decide))).trans ?_
  refine (if_neg (cj 17 (by decide))).trans ?_
  refine (if_neg (cj 18 (by decide))).trans ?_
  refine (if_neg (cj 19 (by decide))).trans ?_
  refine (if_neg (cj 20 (by decide))).trans ?_
  refine (if_neg (cj 21 (by decide))).trans ?_
  refine (if_neg (cj 22 (by decide))).trans ?_
  refine (if_pos (show rdM τ 1 (nQ i).toNatClampNeg &&& nQ 63 = nQ 23 by rw [hw, hop])).trans ?_
  by_cases c : k = 0
  · have hv0 := hv c
    subst c
    simp (disch := omega) only [aOk, eq_self, nQ_nat, nQ_neg, nQ_add, leF, cn_l, Option.toList, List.cons_append, List.nil_append, if_true, if_false, true_and, and_true, or_false, false_or, not_false_eq_true, List.all_cons, List.all_nil, o1_r, o1_i, Bool.and_self, Bool.and_true, Nat.le_refl, Nat.zero_le, t1, x1, b1, b2, e1, q1, q2, m1, m2, m3, e2, e3, hv0, lg_r, g223_1705, g223_1717, g223_1723, g223_1747]
  · have c0 : (nQ k = nQ 0) = False := by rw [nQ_eq (by omega) (by decide)]; exact eq_false c
    simp (disch := omega) only [aOk, eq_self, nQ_nat, nQ_neg, nQ_add, leF, cn_l, Option.toList, List.cons_append, List.nil_append, if_true, if_false, true_and, and_true, or_false, false_or, not_false_eq_true, List.all_cons, List.all_nil, o1_r, o1_i, Bool.and_self, Bool.and_true, Nat.le_refl, Nat.zero_le, t1, x1, b1, b2, e1, q1, q2, m1, m2, m3, e2, e3, c0, g223_1705, g223_1717, g223_1723, g223_1747]
theorem op_24 (h : RW L xs τ) (hL : L ≤ 3072) (hi : i + 6 ≤ L) (hkc : kc ≤ 500000) (hks : ks ≤ 7000000) (hop : xs i &&& nQ 63 = nQ 24) : NxP L xs τ i kc ks o5 o6 := by
  have t1 : tkM τ 1 = (2, L) := h.1.2.1.1
  have x1 : ∀ j, rdM τ 1 j = xs j := h.1.2.1.2
  have hw : rdM τ 1 (nQ i).toNatClampNeg = xs i := by rw [nQ_nat (by omega), x1]
  have a0 : aOk 2 τ 1 (nQ i) := by
    simp (disch := omega) only [aOk, t1, nQ_neg, nQ_nat, leF, or_false, not_false_eq_true, and_true]
  have n0 : ¬ (nQ (tkM τ 1).2 - nQ 6 < nQ i) := by
    rw [t1, cnd_l hL (by omega)]
    omega
  have cj : ∀ j, j < 24 → ¬ rdM τ 1 (nQ i).toNatClampNeg &&& nQ 63 = nQ j := fun j hj => by
    rw [hw, hop, nQ_eq (by omega) (by omega)]
    omega
  have b1 : kc + 1 ≤ 601024 := by omega
  have b2 : ks + 6 ≤ 7293034 := by omega
  obtain ⟨τ1, τ2, k, v, e1, e2, hk3, hk, hv, hE, hR⟩ := s69 h (xs (i + 1))
  simp only [List.cons_append, List.nil_append] at e1
  have q1 : tkM τ1 1 = (2, L) := by
    rw [← hE.1]
    exact hR.1.2.1.1
  have q2 : ∀ j, rdM τ1 1 j = xs j := fun j => by
    rw [← hE.2 1 (by decide)]
    exact hR.1.2.1.2 j
  have m2 : tkM τ2 186 = (1, 5) := hR.1.1.2.2.2.2.1
  have m1 : tkM τ1 186 = (1, 5) := by
    rw [← hE.1]
    exact m2
  have m3 : tkM τ2 193 = (5, 1) := hR.1.1.2.2.1.2.2.2.2.2.2.2.2.2
  have e3 := d105 m2 hk
  refine ⟨τ2, kc + 1, ks + 6, some (.int (nQ k)), some (.int v), by omega, by omega, hR, ?_⟩
  refine (g223_23).trans ?_
  refine (if_pos (show (tkM τ 1).1 = 2 from congrArg (·.1) t1)).trans ?_
  refine (if_neg n0).trans ?_
  refine (if_pos a0).trans ?_
  refine (if_neg (cj 0 (by decide))).trans ?_
  refine (if_neg (cj 1 (by decide))).trans ?_
  refine (if_neg (cj 2 (by decide))).trans ?_
  refine (if_neg (cj 3 (by decide))).trans ?_
  refine (if_neg (cj 4 (by decide))).trans ?_
  refine (if_neg (cj 5 (by decide))).trans ?_
  refine (if_neg (cj 6 (by decide))).trans ?_
  refine (if_neg (cj 7 (by decide))).trans ?_
  refine (if_neg (cj 8 (by decide))).trans ?_
  refine (if_neg (cj 9 (by decide))).trans ?_
  refine (if_neg (cj 10 (by decide))).trans ?_
  refine (if_neg (cj 11 (by decide))).trans ?_
  refine (if_neg (cj 12 (by decide))).trans ?_
  refine (if_neg (cj 13 (by decide))).trans ?_
  refine (if_neg (cj 14 (by decide))).trans ?_
  refine (if_neg (cj 15 (by decide))).trans ?_
  refine (if_neg (cj 16 (by decide))).trans ?_
  refine (if_neg (cj 17 (by decide))).trans ?_
  refine (if_neg (cj 18 (by decide))).trans ?_
  refine (if_neg (cj 19 (by decide))).trans ?_
  refine (if_neg (cj 20 (by decide))).trans ?_
  refine (if_neg (cj 21 (by decide))).trans ?_
  refine (if_neg (cj 22 (by decide))).trans ?_
  refine (if_neg (cj 23 (by decide))).trans ?_
  refine (if_pos (show rdM τ 1 (nQ i).toNatClampNeg &&& nQ 63 = nQ 24 by rw [hw, hop])).trans ?_
  by_cases c : k = 0
  · have hv0 := hv c
    subst c
    simp (disch := omega) only [aOk, eq_self, nQ_nat, nQ_neg, nQ_add, leF, cn_l, Option.toList, List.cons_append, List.nil_append, if_true, if_false, true_and, and_true, or_false, false_or, not_false_eq_true, List.all_cons, List.all_nil, o1_r, o1_i, Bool.and_self, Bool.and_true, Nat.le_refl, Nat.zero_le, t1, x1, b1, b2, e1, q1, q2, m1, m2, m3, e2, e3, hv0, lg_r, g223_1761, g223_1773, g223_1779, g223_1803]
  · have c0 : (nQ k = nQ 0) = False := by rw [nQ_eq (by omega) (by decide)]; exact eq_false c
    simp (disch := omega) only [aOk, eq_self, nQ_nat, nQ_neg, nQ_add, leF, cn_l, Option.toList, List.cons_append, List.nil_append, if_true, if_false, true_and, and_true, or_false, false_or, not_false_eq_true, List.all_cons, List.all_nil, o1_r, o1_i, Bool.and_self, Bool.and_true, Nat.le_refl, Nat.zero_le, t1, x1, b1, b2, e1, q1, q2, m1, m2, m3, e2, e3, c0, g223_1761, g223_1773, g223_1779, g223_1803]
theorem op_25 (h : RW L xs τ) (hL : L ≤ 3072) (hi : i + 6 ≤ L) (hkc : kc ≤ 500000) (hks : ks ≤ 7000000) (hop : xs i &&& nQ 63 = nQ 25) : NxP L xs τ i kc ks o5 o6 := by
  have t1 : tkM τ 1 = (2, L) := h.1.2.1.1
  have x1 : ∀ j, rdM τ 1 j = xs j := h.1.2.1.2
  have hw : rdM τ 1 (nQ i).toNatClampNeg = xs i := by rw [nQ_nat (by omega), x1]
  have a0 : aOk 2 τ 1 (nQ i) := by
    simp (disch := omega) only [aOk, t1, nQ_neg, nQ_nat, leF, or_false, not_false_eq_true, and_true]
  have n0 : ¬ (nQ (tkM τ 1).2 - nQ 6 < nQ i) := by
    rw [t1, cnd_l hL (by omega)]
    omega
  have cj : ∀ j, j < 25 → ¬ rdM τ 1 (nQ i).toNatClampNeg &&& nQ 63 = nQ j := fun j hj => by
    rw [hw, hop, nQ_eq (by omega) (by omega)]
    omega
  have b1 : kc + 2 ≤ 601024 := by omega
  have b2 : ks + 12 ≤ 7293034 := by omega
  obtain ⟨τ1, τ2, k, v, e1, e2, hk3, hk, hv, hE, hR⟩ := s70 h (xs (i + 1)) (xs (i + 2))
  simp only [List.cons_append, List.nil_append] at e1
  have q1 : tkM τ1 1 = (2, L) := by
    rw [← hE.1]
    exact hR.1.2.1.1
  have q2 : ∀ j, rdM τ1 1 j = xs j := fun j => by
    rw [← hE.2 1 (by decide)]
    exact hR.1.2.1.2 j
  have m2 : tkM τ2 186 = (1, 5) := hR.1.1.2.2.2.2.1
  have m1 : tkM τ1 186 = (1, 5) := by
    rw [← hE.1]
    exact m2
  have m3 : tkM τ2 193 = (5, 1) := hR.1.1.2.2.1.2.2.2.2.2.2.2.2.2
  have e3 := d105 m2 hk
  refine ⟨τ2, kc + 2, ks + 12, some (.int (nQ k)), some (.int v), by omega, by omega, hR, ?_⟩
  refine (g223_23).trans ?_
  refine (if_pos (show (tkM τ 1).1 = 2 from congrArg (·.1) t1)).trans ?_
  refine (if_neg n0).trans ?_
  refine (if_pos a0).trans ?_
  refine (if_neg (cj 0 (by decide))).trans ?_
  refine (if_neg (cj 1 (by decide))).trans ?_
  refine (if_neg (cj 2 (by decide))).trans ?_
  refine (if_neg (cj 3 (by decide))).trans ?_
  refine (if_neg (cj 4 (by decide))).trans ?_
  refine (if_neg (cj 5 (by decide))).trans ?_
  refine (if_neg (cj 6 (by decide))).trans ?_
  refine (if_neg (cj 7 (by decide))).trans ?_
  refine (if_neg (cj 8 (by decide))).trans ?_
  refine (if_neg (cj 9 (by decide))).trans ?_
  refine (if_neg (cj 10 (by decide))).trans ?_
  refine (if_neg (cj 11 (by decide))).trans ?_
  refine (if_neg (cj 12 (by decide))).trans ?_
  refine (if_neg (cj 13 (by decide))).trans ?_
  refine (if_neg (cj 14 (by decide))).trans ?_
  refine (if_neg (cj 15 (by decide))).trans ?_
  refine (if_neg (cj 16 (by decide))).trans ?_
  refine (if_neg (cj 17 (by decide))).trans ?_
  refine (if_neg (cj 18 (by decide))).trans ?_
  refine (if_neg (cj 19 (by decide))).trans ?_
  refine (if_neg (cj 20 (by decide))).trans ?_
  refine (if_neg (cj 21 (by decide))).trans ?_
  refine (if_neg (cj 22 (by decide))).trans ?_
  refine (if_neg (cj 23 (by decide))).trans ?_
  refine (if_neg (cj 24 (by decide))).trans ?_
  refine (if_pos (show rdM τ 1 (nQ i).toNatClampNeg &&& nQ 63 = nQ 25 by rw [hw, hop])).trans ?_
  by_cases c : k = 0
  · have hv0 := hv c
    subst c
    simp (disch := omega) only [aOk, eq_self, nQ_nat, nQ_neg, nQ_add, leF, cn_l, Option.toList, List.cons_append, List.nil_append, if_true, if_false, true_and, and_true, or_false, false_or, not_false_eq_true, List.all_cons, List.all_nil, o1_r, o1_i, Bool.and_self, Bool.and_true, Nat.le_refl, Nat.zero_le, t1, x1, b1, b2, e1, q1, q2, m1, m2, m3, e2, e3, hv0, lg_r, g223_1823, g223_1841, g223_1847, g223_1871]
  · have c0 : (nQ k = nQ 0) = False := by rw [nQ_eq (by omega) (by decide)]; exact eq_false c
    simp (disch := omega) only [aOk, eq_self, nQ_nat, nQ_neg, nQ_add, leF, cn_l, Option.toList, List.cons_append, List.nil_append, if_true, if_false, true_and, and_true, or_false, false_or, not_false_eq_true, List.all_cons, List.all_nil, o1_r, o1_i, Bool.and_self, Bool.and_true, Nat.le_refl, Nat.zero_le, t1, x1, b1, b2, e1, q1, q2, m1, m2, m3, e2, e3, c0, g223_1823, g223_1841, g223_1847, g223_1871]
theorem op_26 (h : RW L xs τ) (hL : L ≤ 3072) (hi : i + 6 ≤ L) (hkc : kc ≤ 500000) (hks : ks ≤ 7000000) (hop : xs i &&& nQ 63 = nQ 26) : NxP L xs τ i kc ks o5 o6 := by
  have t1 : tkM τ 1 = (2, L) := h.1.2.1.1
  have x1 : ∀ j, rdM τ 1 j = xs j := h.1.2.1.2
  have hw : rdM τ 1 (nQ i).toNatClampNeg = xs i := by rw [nQ_nat (by omega), x1]
  have a0 : aOk 2 τ 1 (nQ i) := by
    simp (disch := omega) only [aOk, t1, nQ_neg, nQ_nat, leF, or_false, not_false_eq_true, and_true]
  have n0 : ¬ (nQ (tkM τ 1).2 - nQ 6 < nQ i) := by
    rw [t1, cnd_l hL (by omega)]
    omega
  have cj : ∀ j, j < 26 → ¬ rdM τ 1 (nQ i).toNatClampNeg &&& nQ 63 = nQ j := fun j hj => by
    rw [hw, hop, nQ_eq (by omega) (by omega)]
    omega
  have b1 : kc + 2 ≤ 601024 := by omega
  have b2 : ks + 12 ≤ 7293034 := by omega
  obtain ⟨τ1, τ2, k, v, e1, e2, hk3, hk, hv, hE, hR⟩ := s71 h (xs (i + 1)) (xs (i + 2))
  simp only [List.cons_append, List.nil_append] at e1
  have q1 : tkM τ1 1 = (2, L) := by
    rw [← hE.1]
    exact hR.1.2.1.1
  have q2 : ∀ j, rdM τ1 1 j = xs j := fun j => by
    rw [← hE.2 1 (by decide)]
    exact hR.1.2.1.2 j
  have m2 : tkM τ2 186 = (1, 5) := hR.1.1.2.2.2.2.1
  have m1 : tkM τ1 186 = (1, 5) := by
    rw [← hE.1]
    exact m2
  have m3 : tkM τ2 193 = (5, 1) := hR.1.1.2.2.1.2.2.2.2.2.2.2.2.2
  have e3 := d105 m2 hk
  refine ⟨τ2, kc + 2, ks + 12, some (.int (nQ k)), some (.int v), by omega, by omega, hR, ?_⟩
  refine (g223_23).trans ?_
  refine (if_pos (show (tkM τ 1).1 = 2 from congrArg (·.1) t1)).trans ?_
  refine (if_neg n0).trans ?_
  refine (if_pos a0).trans ?_
  refine (if_neg (cj 0 (by decide))).trans ?_
  refine (if_neg (cj 1 (by decide))).trans ?_
  refine (if_neg (cj 2 (by decide))).trans ?_
  refine (if_neg (cj 3 (by decide))).trans ?_
  refine (if_neg (cj 4 (by decide))).trans ?_
  refine (if_neg (cj 5 (by decide))).trans ?_
  refine (if_neg (cj 6 (by decide))).trans ?_
  refine (if_neg (cj 7 (by decide))).trans ?_
  refine (if_neg (cj 8 (by decide))).trans ?_
  refine (if_neg (cj 9 (by decide))).trans ?_
  refine (if_neg (cj 10 (by decide))).trans ?_
  refine (if_neg (cj 11 (by decide))).trans ?_
  refine (if_neg (cj 12 (by decide))).trans ?_
  refine (if_neg (cj 13 (by decide))).trans ?_
  refine (if_neg (cj 14 (by decide))).trans ?_
  refine (if_neg (cj 15 (by decide))).trans ?_
  refine (if_neg (cj 16 (by decide))).trans ?_
  refine (if_neg (cj 17 (by decide))).trans ?_
  refine (if_neg (cj 18 (by decide))).trans ?_
  refine (if_neg (cj 19 (by decide))).trans ?_
  refine (if_neg (cj 20 (by decide))).trans ?_
  refine (if_neg (cj 21 (by decide))).trans ?_
  refine (if_neg (cj 22 (by decide))).trans ?_
  refine (if_neg (cj 23 (by decide))).trans ?_
  refine (if_neg (cj 24 (by decide))).trans ?_
  refine (if_neg (cj 25 (by decide))).trans ?_
  refine (if_pos (show rdM τ 1 (nQ i).toNatClampNeg &&& nQ 63 = nQ 26 by rw [hw, hop])).trans ?_
  by_cases c : k = 0
  · have hv0 := hv c
    subst c
    simp (disch := omega) only [aOk, eq_self, nQ_nat, nQ_neg, nQ_add, leF, cn_l, Option.toList, List.cons_append, List.nil_append, if_true, if_false, true_and, and_true, or_false, false_or, not_false_eq_true, List.all_cons, List.all_nil, o1_r, o1_i, Bool.and_self, Bool.and_true, Nat.le_refl, Nat.zero_le, t1, x1, b1, b2, e1, q1, q2, m1, m2, m3, e2, e3, hv0, lg_r, g223_1891, g223_1909, g223_1915, g223_1939]
  · have c0 : (nQ k = nQ 0) = False := by rw [nQ_eq (by omega) (by decide)]; exact eq_false c
    simp (disch := omega) only [aOk, eq_self, nQ_nat, nQ_neg, nQ_add, leF, cn_l, Option.toList, List.cons_append, List.nil_append, if_true, if_false, true_and, and_true, or_false, false_or, not_false_eq_true, List.all_cons, List.all_nil, o1_r, o1_i, Bool.and_self, Bool.and_true, Nat.le_refl, Nat.zero_le, t1, x1, b1, b2, e1, q1, q2, m1, m2, m3, e2, e3, c0, g223_1891, g223_1909, g223_1915, g223_1939]
theorem op_27 (h : RW L xs τ) (hL : L ≤ 3072) (hi : i + 6 ≤ L) (hkc : kc ≤ 500000) (hks : ks ≤ 7000000) (hop : xs i &&& nQ 63 = nQ 27) : NxP L xs τ i kc ks o5 o6 := by
  have t1 : tkM τ 1 = (2, L) := h.1.2.1.1
  have x1 : ∀ j, rdM τ 1 j = xs j := h.1.2.1.2
  have hw : rdM τ 1 (nQ i).toNatClampNeg = xs i := by rw [nQ_nat (by omega), x1]
  have a0 : aOk 2 τ 1 (nQ i) := by
    simp (disch := omega) only [aOk, t1, nQ_neg, nQ_nat, leF, or_false, not_false_eq_true, and_true]
  have n0 : ¬ (nQ (tkM τ 1).2 - nQ 6 < nQ i) := by
    rw [t1, cnd_l hL (by omega)]
    omega
  have cj : ∀ j, j < 27 → ¬ rdM τ 1 (nQ i).toNatClampNeg &&& nQ 63 = nQ j := fun j hj => by
    rw [hw, hop, nQ_eq (by omega) (by omega)]
    omega
  have b1 : kc + 2 ≤ 601024 := by omega
  have b2 : ks + 12 ≤ 7293034 := by omega
  obtain ⟨τ1, τ2, k, v, e1, e2, hk3, hk, hv, hE, hR⟩ := s72 h (xs (i + 1)) (xs (i + 2))
  simp only [List.cons_append, List.nil_append] at e1
  have q1 : tkM τ1 1 = (2, L) := by
    rw [← hE.1]
    exact hR.1.2.1.1
  have q2 : ∀ j, rdM τ1 1 j = xs j := fun j => by
    rw [← hE.2 1 (by decide)]
    exact hR.1.2.1.2 j
  have m2 : tkM τ2 186 = (1, 5) := hR.1.1.2.2.2.2.1
  have m1 : tkM τ1 186 = (1, 5) := by
    rw [← hE.1]
    exact m2
  have m3 : tkM τ2 193 = (5, 1) := hR.1.1.2.2.1.2.2.2.2.2.2.2.2.2
  have e3 := d105 m2 hk
  refine ⟨τ2, kc + 2, ks + 12, some (.int (nQ k)), some (.int v), by omega, by omega, hR, ?_⟩
  refine (g223_23).trans ?_
  refine (if_pos (show (tkM τ 1).1 = 2 from congrArg (·.1) t1)).trans ?_
  refine (if_neg n0).trans ?_
  refine (if_pos a0).trans ?_
  refine (if_neg (cj 0 (by decide))).trans ?_
  refine (if_neg (cj 1 (by decide))).trans ?_
  refine (if_neg (cj 2 (by decide))).trans ?_
  refine (if_neg (cj 3 (by decide))).trans ?_
  refine (if_neg (cj 4 (by decide))).trans ?_
  refine (if_neg (cj 5 (by decide))).trans ?_
  refine (if_neg (cj 6 (by decide))).trans ?_
  refine (if_neg (cj 7 (by decide))).trans ?_
  refine (if_neg (cj 8 (by decide))).trans ?_
  refine (if_neg (cj 9 (by decide))).trans ?_
  refine (if_neg (cj 10 (by decide))).trans ?_
  refine (if_neg (cj 11 (by decide))).trans ?_
  refine (if_neg (cj 12 (by decide))).trans ?_
  refine (if_neg (cj 13 (by decide))).trans ?_
  refine (if_neg (cj 14 (by decide))).trans ?_
  refine (if_neg (cj 15 (by decide))).trans ?_
  refine (if_neg (cj 16 (by decide))).trans ?_
  refine (if_neg (cj 17 (by decide))).trans ?_
  refine (if_neg (cj 18 (by decide))).trans ?_
  refine (if_neg (cj 19 (by decide))).trans ?_
  refine (if_neg (cj 20 (by decide))).trans ?_
  refine (if_neg (cj 21 (by decide))).trans ?_
  refine (if_neg (cj 22 (by decide))).trans ?_
  refine (if_neg (cj 23 (by decide))).trans ?_
  refine (if_neg (cj 24 (by decide))).trans ?_
  refine (if_neg (cj 25 (by decide))).trans ?_
  refine (if_neg (cj 26 (by decide))).trans ?_
  refine (if_pos (show rdM τ 1 (nQ i).toNatClampNeg &&& nQ 63 = nQ 27 by rw [hw, hop])).trans ?_
  by_cases c : k = 0
  · have hv0 := hv c
    subst c
    simp (disch := omega) only [aOk, eq_self, nQ_nat, nQ_neg, nQ_add, leF, cn_l, Option.toList, List.cons_append, List.nil_append, if_true, if_false, true_and, and_true, or_false, false_or, not_false_eq_true, List.all_cons, List.all_nil, o1_r, o1_i, Bool.and_self, Bool.and_true, Nat.le_refl, Nat.zero_le, t1, x1, b1, b2, e1, q1, q2, m1, m2, m3, e2, e3, hv0, lg_r, g223_1959, g223_1977, g223_1983, g223_2007]
  · have c0 : (nQ k = nQ 0) = False := by rw [nQ_eq (by omega) (by decide)]; exact eq_false c
    simp (disch := omega) only [aOk, eq_self, nQ_nat, nQ_neg, nQ_add, leF, cn_l, Option.toList, List.cons_append, List.nil_append, if_true, if_false, true_and, and_true, or_false, false_or, not_false_eq_true, List.all_cons, List.all_nil, o1_r, o1_i, Bool.and_self, Bool.and_true, Nat.le_refl, Nat.zero_le, t1, x1, b1, b2, e1, q1, q2, m1, m2, m3, e2, e3, c0, g223_1959, g223_1977, g223_1983, g223_2007]
theorem op_28 (h : RW L xs τ) (hL : L ≤ 3072) (hi : i + 6 ≤ L) (hkc : kc ≤ 500000) (hks : ks ≤ 7000000) (hop : xs i &&& nQ 63 = nQ 28) : NxP L xs τ i kc ks o5 o6 := by
  have t1 : tkM τ 1 = (2, L) := h.1.2.1.1
  have x1 : ∀ j, rdM τ 1 j = xs j := h.1.2.1.2
  have hw : rdM τ 1 (nQ i).toNatClampNeg = xs i := by rw [nQ_nat (by omega), x1]
  have a0 : aOk 2 τ 1 (nQ i) := by
    simp (disch := omega) only [aOk, t1, nQ_neg, nQ_nat, leF, or_false, not_false_eq_true, and_true]
  have n0 : ¬ (nQ (tkM τ 1).2 - nQ 6 < nQ i) := by
    rw [t1, cnd_l hL (by omega)]
    omega
  have cj : ∀ j, j < 28 → ¬ rdM τ 1 (nQ i).toNatClampNeg &&& nQ 63 = nQ j := fun j hj => by
    rw [hw, hop, nQ_eq (by omega) (by omega)]
    omega
  have b1 : kc ≤ 601024 := by omega
  have b2 : ks ≤ 7293034 := by omega
  obtain ⟨v, τ1, τ2, e1, e2, hE, hR⟩ := s73 h
  have m1 : tkM τ1 186 = (1, 5) := by
    rw [← hE.1]
    exact hR.1.1.2.2.2.2.1
  refine ⟨τ2, kc, ks, o5, o6, by omega, by omega, hR, ?_⟩
  refine (g223_23).trans ?_
  refine (if_pos (show (tkM τ 1).1 = 2 from congrArg (·.1) t1)).trans ?_
  refine (if_neg n0).trans ?_
  refine (if_pos a0).trans ?_
  refine (if_neg (cj 0 (by decide))).trans ?_
  refine (if_neg (cj 1 (by decide))).trans ?_
  refine (if_neg (cj 2 (by decide))).trans ?_
  refine (if_neg (cj 3 (by decide))).trans ?_
  refine (if_neg (cj 4 (by decide))).trans ?_
  refine (if_neg (cj 5 (by decide))).trans ?_
  refine (if_neg (cj 6 (by decide))).trans ?_
  refine (if_neg (cj 7 (by decide))).trans ?_
  refine (if_neg (cj 8 (by decide))).trans ?_
  refine (if_neg (cj 9 (by decide))).trans ?_
  refine (if_neg (cj 10 (by decide))).trans ?_
  refine (if_neg (cj 11 (by decide))).trans ?_
  refine (if_neg (cj 12 (by decide))).trans ?_
  refine (if_neg (cj 13 (by decide))).trans ?_
  refine (if_neg (cj 14 (by decide))).trans ?_
  refine (if_neg (cj 15 (by decide))).trans ?_
  refine (if_neg (cj 16 (by decide))).trans ?_
  refine (if_neg (cj 17 (by decide))).trans ?_
  refine (if_neg (cj 18 (by decide))).trans ?_
  refine (if_neg (cj 19 (by decide))).trans ?_
  refine (if_neg (cj 20 (by decide))).trans ?_
  refine (if_neg (cj 21 (by decide))).trans ?_
  refine (if_neg (cj 22 (by decide))).trans ?_
  refine (if_neg (cj 23 (by decide))).trans ?_
  refine (if_neg (cj 24 (by decide))).trans ?_
  refine (if_neg (cj 25 (by decide))).trans ?_
  refine (if_neg (cj 26 (by decide))).trans ?_
  refine (if_neg (cj 27 (by decide))).trans ?_
  refine (if_pos (show rdM τ 1 (nQ i).toNatClampNeg &&& nQ 63 = nQ 28 by rw [hw, hop])).trans ?_
  have w8 : tkM τ 8 = (1, 4) := h.1.1.1.1
  simp (disch := omega) only [aOk, eq_self, nQ_nat, nQ_neg, nQ_add, leF, cn_l, Option.toList, List.cons_append, List.nil_append, if_true, if_false, true_and, and_true, or_false, false_or, not_false_eq_true, List.all_cons, List.all_nil, o1_r, o1_i, Bool.and_self, Bool.and_true, Nat.le_refl, Nat.zero_le, Nat.reduceLeDiff, w8, b1, b2, e1, m1, e2, g223_2014, g223_2018]
theorem op_29 (h : RW L xs τ) (hL : L ≤ 3072) (hi : i + 6 ≤ L) (hkc : kc ≤ 500000) (hks : ks ≤ 7000000) (hop : xs i &&& nQ 63 = nQ 29) : NxP L xs τ i kc ks o5 o6 := by
  have t1 : tkM τ 1 = (2, L) := h.1.2.1.1
  have x1 : ∀ j, rdM τ 1 j = xs j := h.1.2.1.2
  have hw : rdM τ 1 (nQ i).toNatClampNeg = xs i := by rw [nQ_nat (by omega), x1]
  have a0 : aOk 2 τ 1 (nQ i) := by
    simp (disch := omega) only [aOk, t1, nQ_neg, nQ_nat, leF, or_false, not_false_eq_true, and_true]
  have n0 : ¬ (nQ (tkM τ 1).2 - nQ 6 < nQ i) := by
    rw [t1, cnd_l hL (by omega)]
    omega
  have cj : ∀ j, j < 29 → ¬ rdM τ 1 (nQ i).toNatClampNeg &&& nQ 63 = nQ j := fun j hj => by
    rw [hw, hop, nQ_eq (by omega) (by omega)]
    omega
  have b1 : kc + 1 ≤ 601024 := by omega
  have b2 : ks + 6 ≤ 7293034 := by omega
  obtain ⟨τ1, τ2, k, v, e1, e2, hk3, hk, hv, hE, hR⟩ := s74 h (xs (i + 1))
  simp only [List.cons_append, List.nil_append] at e1
  have q1 : tkM τ1 1 = (2, L) := by
    rw [← hE.1]
    exact hR.1.2.1.1
  have q2 : ∀ j, rdM τ1 1 j = xs j := fun j => by
    rw [← hE.2 1 (by decide)]
    exact hR.1.2.1.2 j
  have m2 : tkM τ2 186 = (1, 5) := hR.1.1.2.2.2.2.1
  have m1 : tkM τ1 186 = (1, 5) := by
    rw [← hE.1]
    exact m2
  have m3 : tkM τ2 193 = (5, 1) := hR.1.1.2.2.1.2.2.2.2.2.2.2.2.2
  have e3 := d105 m2 hk
  refine ⟨τ2, kc + 1, ks + 6, some (.int (nQ k)), some (.int v), by omega, by omega, hR, ?_⟩
  refine (g223_23).trans ?_
  refine (if_pos (show (tkM τ 1).1 = 2 from congrArg (·.1) t1)).trans ?_
  refine (if_neg n0).trans ?_
  refine (if_pos a0).trans ?_
  refine (if_neg (cj 0 (by decide))).trans ?_
  refine (if_neg (cj 1 (by decide))).trans ?_
  refine (if_neg (cj 2 (by decide))).trans ?_
  refine (if_neg (cj 3 (by decide))).trans ?_
  refine (if_neg (cj 4 (by decide))).trans ?_
  refine (if_neg (cj 5 (by decide))).trans ?_
  refine (if_neg (cj 6 (by decide))).trans ?_
  refine (if_neg (cj 7 (by decide))).trans ?_
  refine (if_neg (cj 8 (by decide))).trans ?_
  refine (if_neg (cj 9 (by decide))).trans ?_
  refine (if_neg (cj 10 (by decide))).trans ?_
  refine (if_neg (cj 11 (by decide))).trans ?_
  refine (if_neg (cj 12 (by decide))).trans ?_
  refine (if_neg (cj 13 (by decide))).trans ?_
  refine (if_neg (cj 14 (by decide))).trans ?_
  refine (if_neg (cj 15 (by decide))).trans ?_
  refine (if_neg (cj 16 (by decide))).trans ?_
  refine (if_neg (cj 17 (by decide))).trans ?_
  refine (if_neg (cj 18 (by decide))).trans ?_
  refine (if_neg (cj 19 (by decide))).trans ?_
  refine (if_neg (cj 20 (by decide))).trans ?_
  refine (if_neg (cj 21 (by decide))).trans ?_
  refine (if_neg (cj 22 (by decide))).trans ?_
  refine (if_neg (cj 23 (by decide))).trans ?_
  refine (if_neg (cj 24 (by decide))).trans ?_
  refine (if_neg (cj 25 (by decide))).trans ?_
  refine (if_neg (cj 26 (by decide))).trans ?_
  refine (if_neg (cj 27 (by decide))).trans ?_
  refine (if_neg (cj 28 (by decide))).trans ?_
  refine (if_pos (show rdM τ 1 (nQ i).toNatClampNeg &&& nQ 63 = nQ 29 by rw [hw, hop])).trans ?_
  by_cases c : k = 0
  · have hv0 := hv c
    subst c
    simp (disch := omega) only [aOk, eq_self, nQ_nat, nQ_neg, nQ_add, leF, cn_l, Option.toList, List.cons_append, List.nil_append, if_true, if_false, true_and, and_true, or_false, false_or, not_false_eq_true, List.all_cons, List.all_nil, o1_r, o1_i, Bool.and_self, Bool.and_true, Nat.le_refl, Nat.zero_le, t1, x1, b1, b2, e1, q1, q2, m1, m2, m3, e2, e3, hv0, lg_r, g223_2034, g223_2046, g223_2052, g223_2076]
  · have c0 : (nQ k = nQ 0) = False := by rw [nQ_eq (by omega) (by decide)]; exact eq_false c
    simp (disch := omega) only [aOk, eq_self, nQ_nat, nQ_neg, nQ_add, leF, cn_l, Option.toList, List.cons_append, List.nil_append, if_true, if_false, true_and, and_true, or_false, false_or, not_false_eq_true, List.all_cons, List.all_nil, o1_r, o1_i, Bool.and_self, Bool.and_true, Nat.le_refl, Nat.zero_le, t1, x1, b1, b2, e1, q1, q2, m1, m2, m3, e2, e3, c0, g223_2034, g223_2046, g223_2052, g223_2076]
theorem op_30 (h : RW L xs τ) (hL : L ≤ 3072) (hi : i + 6 ≤ L) (hkc : kc ≤ 500000) (hks : ks ≤ 7000000) (hop : xs i &&& nQ 63 = nQ 30) : NxP L xs τ i kc ks o5 o6 := by
  have t1 : tkM τ 1 = (2, L) := h.1.2.1.1
  have x1 : ∀ j, rdM τ 1 j = xs j := h.1.2.1.2
  have hw : rdM τ 1 (nQ i).toNatClampNeg = xs i := by rw [nQ_nat (by omega), x1]
  have a0 : aOk 2 τ 1 (nQ i) := by
    simp (disch := omega) only [aOk, t1, nQ_neg, nQ_nat, leF, or_false, not_false_eq_true, and_true]
  have n0 : ¬ (nQ (tkM τ 1).2 - nQ 6 < nQ i) := by
    rw [t1, cnd_l hL (by omega)]
    omega
  have cj : ∀ j, j < 30 → ¬ rdM τ 1 (nQ i).toNatClampNeg &&& nQ 63 = nQ j := fun j hj => by
    rw [hw, hop, nQ_eq (by omega) (by omega)]
    omega
  have b1 : kc + 1 ≤ 601024 := by omega
  have b2 : ks + 6 ≤ 7293034 := by omega
  obtain ⟨τ1, τ2, k, v, e1, e2, hk3, hk, hv, hE, hR⟩ := s75 h (xs (i + 1))
  simp only [List.cons_append, List.nil_append] at e1
  have q1 : tkM τ1 1 = (2, L) := by
    rw [← hE.1]
    exact hR.1.2.1.1
  have q2 : ∀ j, rdM τ1 1 j = xs j := fun j => by
    rw [← hE.2 1 (by decide)]
    exact hR.1.2.1.2 j
  have m2 : tkM τ2 186 = (1, 5) := hR.1.1.2.2.2.2.1
  have m1 : tkM τ1 186 = (1, 5) := by
    rw [← hE.1]
    exact m2
  have m3 : tkM τ2 193 = (5, 1) := hR.1.1.2.2.1.2.2.2.2.2.2.2.2.2
  have e3 := d105 m2 hk
  refine ⟨τ2, kc + 1, ks + 6, some (.int (nQ k)), some (.int v), by omega, by omega, hR, ?_⟩
  refine (g223_23).trans ?_
  refine (if_pos (show (tkM τ 1).1 = 2 from congrArg (·.1) t1)).trans ?_
  refine (if_neg n0).trans ?_
  refine (if_pos a0).trans ?_
  refine (if_neg (cj 0 (by decide))).trans ?_
  refine (if_neg (cj 1 (by decide))).trans ?_
  refine (if_neg (cj 2 (by decide))).trans ?_
  refine (if_neg (cj 3 (by decide))).trans ?_
  refine (if_neg (cj 4 (by decide))).trans ?_
  refine (if_neg (cj 5 (by decide))).trans ?_
  refine (if_neg (cj 6 (by decide))).trans ?_
  refine (if_neg (cj 7 (by decide))).trans ?_
  refine (if_neg (cj 8 (by decide))).trans ?_
  refine (if_neg (cj 9 (by decide))).trans ?_
  refine (if_neg (cj 10 (by decide))).trans ?_
  refine (if_neg (cj 11 (by decide))).trans ?_
  refine (if_neg (cj 12 (by decide))).trans ?_
  refine (if_neg (cj 13 (by decide))).trans ?_
  refine (if_neg (cj 14 (by decide))).trans ?_
  refine (if_neg (cj 15 (by decide))).trans ?_
  refine (if_neg (cj 16 (by decide))).trans ?_
  refine (if_neg (cj 17 (by decide))).trans ?_
  refine (if_neg (cj 18 (by decide))).trans ?_
  refine (if_neg (cj 19 (by decide))).trans ?_
  refine (if_neg (cj 20 (by decide))).trans ?_
  refine (if_neg (cj 21 (by decide))).trans ?_
  refine (if_neg (cj 22 (by decide))).trans ?_
  refine (if_neg (cj 23 (by decide))).trans ?_
  refine (if_neg (cj 24 (by decide))).trans ?_
  refine (if_neg (cj 25 (by decide))).trans ?_
  refine (if_neg (cj 26 (by decide))).trans ?_
  refine (if_neg (cj 27 (by decide))).trans ?_
  refine (if_neg (cj 28 (by decide))).trans ?_
  refine (if_neg (cj 29 (by decide))).trans ?_
  refine (if_pos (show rdM τ 1 (nQ i).toNatClampNeg &&& nQ 63 = nQ 30 by rw [hw, hop])).trans ?_
  by_cases c : k = 0
  · have hv0 := hv c
    subst c
    simp (disch := omega) only [aOk, eq_self, nQ_nat, nQ_neg, nQ_add, leF, cn_l, Option.toList, List.cons_append, List.nil_append, if_true, if_false, true_and, and_true, or_false, false_or, not_false_eq_true, List.all_cons, List.all_nil, o1_r, o1_i, Bool.and_self, Bool.and_true, Nat.le_refl, Nat.zero_le, t1, x1, b1, b2, e1, q1, q2, m1, m2, m3, e2, e3, hv0, lg_r, g223_2090, g223_2102, g223_2108, g223_2132]
  · have c0 : (nQ k = nQ 0) = False := by rw [nQ_eq (by omega) (by decide)]; exact eq_false c
    simp (disch := omega) only [aOk, eq_self, nQ_nat, nQ_neg, nQ_add, leF, cn_l, Option.toList, List.cons_append, List.nil_append, if_true, if_false, true_and, and_true, or_false, false_or, not_false_eq_true, List.all_cons, List.all_nil, o1_r, o1_i, Bool.and_self, Bool.and_true, Nat.le_refl, Nat.zero_le, t1, x1, b1, b2, e1, q1, q2, m1, m2, m3, e2, e3, c0, g223_2090, g223_2102, g223_2108, g223_2132]
theorem op_31 (h : RW L xs τ) (hL : L ≤ 3072) (hi : i + 6 ≤ L) (hkc : kc ≤ 500000) (hks : ks ≤ 7000000) (hop : xs i &&& nQ 63 = nQ 31) : NxP L xs τ i kc ks o5 o6 := by
  have t1 : tkM τ 1 = (2, L) := h.1.2.1.1
  have x1 : ∀ j, rdM τ 1 j = xs j := h.1.2.1.2
  have hw : rdM τ 1 (nQ i).toNatClampNeg = xs i := by rw [nQ_nat (by omega), x1]
  have a0 : aOk 2 τ 1 (nQ i) := by
    simp (disch := omega) only [aOk, t1, nQ_neg, nQ_nat, leF, or_false, not_false_eq_true, and_true]
  have n0 : ¬ (nQ (tkM τ 1).2 - nQ 6 < nQ i) := by
    rw [t1, cnd_l hL (by omega)]
    omega
  have cj : ∀ j, j < 31 → ¬ rdM τ 1 (nQ i).toNatClampNeg &&& nQ 63 = nQ j := fun j hj => by
    rw [hw, hop, nQ_eq (by omega) (by omega)]
    omega
  have b1 : kc + 3 ≤ 601024 := by omega
  have b2 : ks + 18 ≤ 7293034 := by omega
  obtain ⟨τ1, τ2, k, v, e1, e2, hk3, hk, hv, hE, hR⟩ := s76 h (xs (i + 1)) (xs (i + 2)) (xs (i + 3))
  simp only [List.cons_append, List.nil_append] at e1
  have q1 : tkM τ1 1 = (2, L) := by
    rw [← hE.1]
    exact hR.1.2.1.1
  have q2 : ∀ j, rdM τ1 1 j = xs j := fun j => by
    rw [← hE.2 1 (by decide)]
    exact hR.1.2.1.2 j
  have m2 : tkM τ2 186 = (1, 5) := hR.1.1.2.2.2.2.1
  have m1 : tkM τ1 186 = (1, 5) := by
    rw [← hE.1]
    exact m2
  have m3 : tkM τ2 193 = (5, 1) := hR.1.1.2.2.1.2.2.2.2.2.2.2.2.2
  have e3 := d105 m2 hk
  refine ⟨τ2, kc + 3, ks + 18, some (.int (nQ k)), some (.int v), by omega, by omega, hR, ?_⟩
  refine (g223_23).trans ?_
  refine (if_pos (show (tkM τ 1).1 = 2 from congrArg (·.1) t1)).trans ?_
  refine (if_neg n0).trans ?_
  refine (if_pos a0).trans ?_
  refine (if_neg (cj 0 (by decide))).trans ?_
  refine (if_neg (cj 1 (by decide))).trans ?_
  refine (if_neg (cj 2 (by decide))).trans ?_
  refine (if_neg (cj 3 (by decide))).trans ?_
  refine (if_neg (cj 4 (by decide))).trans ?_
  refine (if_neg (cj 5 (by decide))).trans ?_
  refine (if_neg (cj 6 (by decide))).trans ?_
  refine (if_neg (cj 7 (by decide))).trans ?_
  refine (if_neg (cj 8 (by decide))).trans ?_
  refine (if_neg (cj 9 (by decide))).trans ?_
  refine (if_neg (cj 10 (by decide))).trans ?_
  refine (if_neg (cj 11 (by decide))).trans ?_
  refine (if_neg (cj 12 (by decide))).trans ?_
  refine (if_neg (cj 13 (by decide))).trans ?_
  refine (if_neg (cj 14 (by decide))).trans ?_
  refine (if_neg (cj 15 (by decide))).trans ?_
  refine (if_neg (cj 16 (by decide))).trans ?_
  refine (if_neg (cj 17 (by decide))).trans ?_
  refine (if_neg (cj 18 (by decide))).trans ?_
  refine (if_neg (cj 19 (by decide))).trans ?_
  refine (if_neg (cj 20 (by decide))).trans ?_
  refine (if_neg (cj 21 (by decide))).trans ?_
  refine (if_neg (cj 22 (by decide))).trans ?_
  refine (if_neg (cj 23 (by decide))).trans ?_
  refine (if_neg (cj 24 (by decide))).trans ?_
  refine (if_neg (cj 25 (by decide))).trans ?_
  refine (if_neg (cj 26 (by decide))).trans ?_
  refine (if_neg (cj 27 (by decide))).trans ?_
  refine (if_neg (cj 28 (by decide))).trans ?_
  refine (if_neg (cj 29 (by decide))).trans ?_
  refine (if_neg (cj 30 (by decide))).trans ?_
  refine (if_pos (show rdM τ 1 (nQ i).toNatClampNeg &&& nQ 63 = nQ 31 by rw [hw, hop])).trans ?_
  by_cases c : k = 0
  · have hv0 := hv c
    subst c
    simp (disch := omega) only [aOk, eq_self, nQ_nat, nQ_neg, nQ_add, leF, cn_l, Option.toList, List.cons_append, List.nil_append, if_true, if_false, true_and, and_true, or_false, false_or, not_false_eq_true, List.all_cons, List.all_nil, o1_r, o1_i, Bool.and_self, Bool.and_true, Nat.le_refl, Nat.zero_le, t1, x1, b1, b2, e1, q1, q2, m1, m2, m3, e2, e3, hv0, lg_r, g223_2158, g223_2182, g223_2188, g223_2212]
  · have c0 : (nQ k = nQ 0) = False := by rw [nQ_eq (by omega) (by decide)]; exact eq_false c
    simp (disch := omega) only [aOk, eq_self, nQ_nat, nQ_neg, nQ_add, leF, cn_l, Option.toList, List.cons_append, List.nil_append, if_true, if_false, true_and, and_true, or_false, false_or, not_false_eq_true, List.all_cons, List.all_nil, o1_r, o1_i, Bool.and_self, Bool.and_true, Nat.le_refl, Nat.zero_le, t1, x1, b1, b2, e1, q1, q2, m1, m2, m3, e2, e3, c0, g223_2158, g223_2182, g223_2188, g223_2212]
theorem op_32 (h : RW L xs τ) (hL : L ≤ 3072) (hi : i + 6 ≤ L) (hkc : kc ≤ 500000) (hks : ks ≤ 7000000) (hop : xs i &&& nQ 63 = nQ 32) : NxP L xs τ i kc ks o5 o6 := by
  have t1 : tkM τ 1 = (2, L) := h.1.2.1.1
  have x1 : ∀ j, rdM τ 1 j = xs j := h.1.2.1.2
  have hw : rdM τ 1 (nQ i).toNatClampNeg = xs i := by rw [nQ_nat (by omega), x1]
  have a0 : aOk 2 τ 1 (nQ i) := by
    simp (disch := omega) only [aOk, t1, nQ_neg, nQ_nat, leF, or_false, not_false_eq_true, and_true]
  have n0 : ¬ (nQ (tkM τ 1).2 - nQ 6 < nQ i) := by
    rw [t1, cnd_l hL (by omega)]
    omega
  have cj : ∀ j, j < 32 → ¬ rdM τ 1 (nQ i).toNatClampNeg &&& nQ 63 = nQ j := fun j hj => by
    rw [hw, hop, nQ_eq (by omega) (by omega)]
    omega
  have b1 : kc + 3 ≤ 601024 := by omega
  have b2 : ks + 18 ≤ 7293034 := by omega
  obtain ⟨τ1, τ2, k, v, e1, e2, hk3, hk, hv, hE, hR⟩ := s77 h (xs (i + 1)) (xs (i + 2)) (xs (i + 3))
  simp only [List.cons_append, List.nil_append] at e1
  have q1 : tkM τ1 1 = (2, L) := by
    rw [← hE.1]
    exact hR.1.2.1.1
  have q2 : ∀ j, rdM τ1 1 j = xs j := fun j => by
    rw [← hE.2 1 (by decide)]
    exact hR.1.2.1.2 j
  have m2 : tkM τ2 186 = (1, 5) := hR.1.1.2.2.2.2.1
  have m1 : tkM τ1 186 = (1, 5) := by
    rw [← hE.1]
    exact m2
  have m3 : tkM τ2 193 = (5, 1) := hR.1.1.2.2.1.2.2.2.2.2.2.2.2.2
  have e3 := d105 m2 hk
  refine ⟨τ2, kc + 3, ks + 18, some (.int (nQ k)), some (.int v), by omega, by omega, hR, ?_⟩
  refine (g223_23).trans ?_
  refine (if_pos (show (tkM τ 1).1 = 2 from congrArg (·.1) t1)).trans ?_
  refine (if_neg n0).trans ?_
  refine (if_pos a0).trans ?_
  refine (if_neg (cj 0 (by decide))).trans ?_
  refine (if_neg (cj 1 (by decide))).trans ?_
  refine (if_neg (cj 2 (by decide))).trans ?_
  refine (if_neg (cj 3 (by decide))).trans ?_
  refine (if_neg (cj 4 (by decide))).trans ?_
  refine (if_neg (cj 5 (by decide))).trans ?_
  refine (if_neg (cj 6 (by decide))).trans ?_
  refine (if_neg (cj 7 (by decide))).trans ?_
  refine (if_neg (cj 8 (by decide))).trans ?_
  refine (if_neg (cj 9 (by decide))).trans ?_
  refine (if_neg (cj 10 (by decide))).trans ?_
  refine (if_neg (cj 11 (by decide))).trans ?_
  refine (if_neg (cj 12 (by decide))).trans ?_
  refine (if_neg (cj 13 (by decide))).trans ?_
  refine (if_neg (cj 14 (by decide))).trans ?_
  refine (if_neg (cj 15 (by decide))).trans ?_
  refine (if_neg (cj 16 (by decide))).trans ?_
  refine (if_neg (cj 17 (by decide))).trans ?_
  refine (if_neg (cj 18 (by decide))).trans ?_
  refine (if_neg (cj 19 (by decide))).trans ?_
  refine (if_neg (cj 20 (by decide))).trans ?_
  refine (if_neg (cj 21 (by decide))).trans ?_
  refine (if_neg (cj 22 (by decide))).trans ?_
  refine (if_neg (cj 23 (by decide))).trans ?_
  refine (if_neg (cj 24 (by decide))).trans ?_
  refine (if_neg (cj 25 (by decide))).trans ?_
  refine (if_neg (cj 26 (by decide))).trans ?_
  refine (if_neg (cj 27 (by decide))).trans ?_
  refine (if_neg (cj 28 (by decide))).trans ?_
  refine (if_neg (cj 29 (by decide))).trans ?_
  refine (if_neg (cj 30 (by decide))).trans ?_
  refine (if_neg (cj 31 (by decide))).trans ?_
  refine (if_pos (show rdM τ 1 (nQ i).toNatClampNeg &&& nQ 63 = nQ 32 by rw [hw, hop])).trans ?_
  by_cases c : k = 0
  · have hv0 := hv c
    subst c
    simp (disch := omega) only [aOk, eq_self, nQ_nat, nQ_neg, nQ_add, leF, cn_l, Option.toList, List.cons_append, List.nil_append, if_true, if_false, true_and, and_true, or_false, false_or, not_false_eq_true, List.all_cons, List.all_nil, o1_r, o1_i, Bool.and_self, Bool.and_true, Nat.le_refl, Nat.zero_le, t1, x1, b1, b2, e1, q1, q2, m1, m2, m3, e2, e3, hv0, lg_r, g223_2238, g223_2262, g223_2268, g223_2292]
  · have c0 : (nQ k = nQ 0) = False := by rw [nQ_eq (by omega) (by decide)]; exact eq_false c
    simp (disch := omega) only [aOk, eq_self, nQ_nat, nQ_neg, nQ_add, leF, cn_l, Option.toList, List.cons_append, List.nil_append, if_true, if_false, true_and, and_true, or_false, false_or, not_false_eq_true, List.all_cons, List.all_nil, o1_r, o1_i, Bool.and_self, Bool.and_true, Nat.le_refl, Nat.zero_le, t1, x1, b1, b2, e1, q1, q2, m1, m2, m3, e2, e3, c0, g223_2238, g223_2262, g223_2268, g223_2292]
theorem op_33 (h : RW L xs τ) (hL : L ≤ 3072) (hi : i + 6 ≤ L) (hkc : kc ≤ 500000) (hks : ks ≤ 7000000) (hop : xs i &&& nQ 63 = nQ 33) : NxP L xs τ i kc ks o5 o6 := by
  have t1 : tkM τ 1 = (2, L) := h.1.2.1.1
  have x1 : ∀ j, rdM τ 1 j = xs j := h.1.2.1.2
  have hw : rdM τ 1 (nQ i).toNatClampNeg = xs i := by rw [nQ_nat (by omega), x1]
  have a0 : aOk 2 τ 1 (nQ i) := by
    simp (disch := omega) only [aOk, t1, nQ_neg, nQ_nat, leF, or_false, not_false_eq_true, and_true]
  have n0 : ¬ (nQ (tkM τ 1).2 - nQ 6 < nQ i) := by
    rw [t1, cnd_l hL (by omega)]
    omega
  have cj : ∀ j, j < 33 → ¬ rdM τ 1 (nQ i).toNatClampNeg &&& nQ 63 = nQ j := fun j hj => by
    rw [hw, hop, nQ_eq (by omega) (by omega)]
    omega
  have b1 : kc ≤ 601024 := by omega
  have b2 : ks ≤ 7293034 := by omega
  obtain ⟨v, τ1, τ2, e1, e2, hE, hR⟩ := s78 h
  have m1 : tkM τ1 186 = (1, 5) := by
    rw [← hE.1]
    exact hR.1.1.2.2.2.2.1
  refine ⟨τ2, kc, ks, o5, o6, by omega, by omega, hR, ?_⟩
  refine (g223_23).trans ?_
  refine (if_pos (show (tkM τ 1).1 = 2 from congrArg (·.1) t1)).trans ?_
  refine (if_neg n0).trans ?_
  refine (if_pos a0).trans ?_
  refine (if_neg (cj 0 (by decide))).trans ?_
  refine (if_neg (cj 1 (by decide))).trans ?_
  refine (if_neg (cj 2 (by decide))).trans ?_
  refine (if_neg (cj 3 (by decide))).trans ?_
  refine (if_neg (cj 4 (by decide))).trans ?_
  refine (if_neg (cj 5 (by decide))).trans ?_
  refine (if_neg (cj 6 (by decide))).trans ?_
  refine (if_neg (cj 7 (by decide))).trans ?_
  refine (if_neg (cj 8 (by decide))).trans ?_
  refine (if_neg (cj 9 (by decide))).trans ?_
  refine (if_neg (cj 10 (by decide))).trans ?_
  refine (if_neg (cj 11 (by decide))).trans ?_
  refine (if_neg (cj 12 (by decide))).trans ?_
  refine (if_neg (cj 13 (by decide))).trans ?_
  refine (if_neg (cj 14 (by decide))).trans ?_
  refine (if_neg (cj 15 (by decide))).trans ?_
  refine (if_neg (cj 16 (by decide))).trans ?_
  refine (if_neg (cj 17 (by decide))).trans ?_
  refine (if_neg (cj 18 (by decide))).trans ?_
  refine (if_neg (cj 19 (by decide))).trans ?_
  refine (if_neg (cj 20 (by decide))).trans ?_
  refine (if_neg (cj 21 (by decide))).trans ?_
  refine (if_neg (cj 22 (by decide))).trans ?_
  refine (if_neg (cj 23 (by decide))).trans ?_
  refine (if_neg (cj 24 (by decide))).trans ?_
  refine (if_neg (cj 25 (by decide))).trans ?_
  refine (if_neg (cj 26 (by decide))).trans ?_
  refine (if_neg (cj 27 (by decide))).trans ?_
  refine (if_neg (cj 28 (by decide))).trans ?_
  refine (if_neg (cj 29 (by decide))).trans ?_
  refine (if_neg (cj 30 (by decide))).trans ?_
  refine (if_neg (cj 31 (by decide))).trans ?_
  refine (if_neg (cj 32 (by decide))).trans ?_
  refine (if_pos (show rdM τ 1 (nQ i).toNatClampNeg &&& nQ 63 = nQ 33 by rw [hw, hop])).trans ?_
  have w8 : tkM τ 8 = (1, 4) := h.1.1.1.1
  simp (disch := omega) only [aOk, eq_self, nQ_nat, nQ_neg, nQ_add, leF, cn_l, Option.toList, List.cons_append, List.nil_append, if_true, if_false, true_and, and_true, or_false, false_or, not_false_eq_true, List.all_cons, List.all_nil, o1_r, o1_i, Bool.and_self, Bool.and_true, Nat.le_refl, Nat.zero_le, Nat.reduceLeDiff, w8, b1, b2, e1, m1, e2, g223_2299, g223_2303]
theorem op_34 (h : RW L xs τ) (hL : L ≤ 3072) (hi : i + 6 ≤ L) (hkc : kc ≤ 500000) (hks : ks ≤ 7000000) (hop : xs i &&& nQ 63 = nQ 34) : NxP L xs τ i kc ks o5 o6 := by
  have t1 : tkM τ 1 = (2, L) := h.1.2.1.1
  have x1 : ∀ j, rdM τ 1 j = xs j := h.1.2.1.2
  have hw : rdM τ 1 (nQ i).toNatClampNeg = xs i := by rw [nQ_nat (by omega), x1]
  have a0 : aOk 2 τ 1 (nQ i) := by
    simp (disch := omega) only [aOk, t1, nQ_neg, nQ_nat, leF, or_false, not_false_eq_true, and_true]
  have n0 : ¬ (nQ (tkM τ 1).2 - nQ 6 < nQ i) := by
    rw [t1, cnd_l hL (by omega)]
    omega
  have cj : ∀ j, j < 34 → ¬ rdM τ 1 (nQ i).toNatClampNeg &&& nQ 63 = nQ j := fun j hj => by
    rw [hw, hop, nQ_eq (by omega) (by omega)]
    omega
  have b1 : kc + 1 ≤ 601024 := by omega
  have b2 : ks + 6 ≤ 7293034 := by omega
  obtain ⟨τ1, τ2, k, v, e1, e2, hk3, hk, hv, hE, hR⟩ := s79 h (xs (i + 1))
  simp only [List.cons_append, List.nil_append] at e1
  have q1 : tkM τ1 1 = (2, L) := by
    rw [← hE.1]
    exact hR.1.2.1.1
  have q2 : ∀ j, rdM τ1 1 j = xs j := fun j => by
    rw [← hE.2 1 (by decide)]
    exact hR.1.2.1.2 j
  have m2 : tkM τ2 186 = (1, 5) := hR.1.1.2.2.2.2.1
  have m1 : tkM τ1 186 = (1, 5) := by
    rw [← hE.1]
    exact m2
  have m3 : tkM τ2 193 = (5, 1) := hR.1.1.2.2.1.2.2.2.2.2.2.2.2.2
  have e3 := d105 m2 hk
  refine ⟨τ2, kc + 1, ks + 6, some (.int (nQ k)), some (.int v), by omega, by omega, hR, ?_⟩
  refine (g223_23).trans ?_
  refine (if_pos (show (tkM τ 1).1 = 2 from congrArg (·.1) t1)).trans ?_
  refine (if_neg n0).trans ?_
  refine (if_pos a0).trans ?_
  refine (if_neg (cj 0 (by decide))).trans ?_
  refine (if_neg (cj 1 (by decide))).trans ?_
  refine (if_neg (cj 2 (by decide))).trans ?_
  refine (if_neg (cj 3 (by decide))).trans ?_
  refine (if_neg (cj 4 (by decide))).trans ?_
  refine (if_neg (cj 5 (by decide))).trans ?_
  refine (if_neg (cj 6 (by decide))).trans ?_
  refine (if_neg (cj 7 (by decide))).trans ?_
  refine (if_neg (cj 8 (by decide))).trans ?_
  refine (if_neg (cj 9 (by decide))).trans ?_
  refine (if_neg (cj 10 (by decide))).trans ?_
  refine (if_neg (cj 11 (by decide))).trans ?_
  refine (if_neg (cj 12 (by decide))).trans ?_
  refine (if_neg (cj 13 (by decide))).trans ?_
  refine (if_neg (cj 14 (by decide))).trans ?_
  refine (if_neg (cj 15 (by decide))).trans ?_
  refine (if_neg (cj 16 (by decide))).trans ?_
  refine (if_neg (cj 17 (by decide))).trans ?_
  refine (if_neg (cj 18 (by decide))).trans ?_
  refine (if_neg (cj 19 (by decide))).trans ?_
  refine (if_neg (cj 20 (by decide))).trans ?_
  refine (if_neg (cj 21 (by decide))).trans ?_
  refine (if_neg (cj 22 (by decide))).trans ?_
  refine (if_neg (cj 23 (by decide))).trans ?_
  refine (if_neg (cj 24 (by decide))).trans ?_
  refine (if_neg (cj 25 (by decide))).trans ?_
  refine (if_neg (cj 26 (by decide))).trans ?_
  refine (if_neg (cj 27 (by decide))).trans ?_
  refine (if_neg (cj 28 (by decide))).trans ?_
  refine (if_neg (cj 29 (by decide))).trans ?_
  refine (if_neg (cj 30 (by decide))).trans ?_
  refine (if_neg (cj 31 (by decide))).trans ?_
  refine (if_neg (cj 32 (by decide))).trans ?_
  refine (if_neg (cj 33 (by decide))).trans ?_
  refine (if_pos (show rdM τ 1 (nQ i).toNatClampNeg &&& nQ 63 = nQ 34 by rw [hw, hop])).trans ?_
  by_cases c : k = 0
  · have hv0 := hv c
    subst c
    simp (disch := omega) only [aOk, eq_self, nQ_nat, nQ_neg, nQ_add, leF, cn_l, Option.toList, List.cons_append, List.nil_append, if_true, if_false, true_and, and_true, or_false, false_or, not_false_eq_true, List.all_cons, List.all_nil, o1_r, o1_i, Bool.and_self, Bool.and_true, Nat.le_refl, Nat.zero_le, t1, x1, b1, b2, e1, q1, q2, m1, m2, m3, e2, e3, hv0, lg_r, g223_2319, g223_2331, g223_2337, g223_2361]
  · have c0 : (nQ k = nQ 0) = False := by rw [nQ_eq (by omega) (by decide)]; exact eq_false c
    simp (disch := omega) only [aOk, eq_self, nQ_nat, nQ_neg, nQ_add, leF, cn_l, Option.toList, List.cons_append, List.nil_append, if_true, if_false, true_and, and_true, or_false, false_or, not_false_eq_true, List.all_cons, List.all_nil, o1_r, o1_i, Bool.and_self, Bool.and_true, Nat.le_refl, Nat.zero_le, t1, x1, b1, b2, e1, q1, q2, m1, m2, m3, e2, e3, c0, g223_2319, g223_2331, g223_2337, g223_2361]
theorem op_35 (h : RW L xs τ) (hL : L ≤ 3072) (hi : i + 6 ≤ L) (hkc : kc ≤ 500000) (hks : ks ≤ 7000000) (hop : xs i &&& nQ 63 = nQ 35) : NxP L xs τ i kc ks o5 o6 := by
  have t1 : tkM τ 1 = (2, L) := h.1.2.1.1
  have x1 : ∀ j, rdM τ 1 j = xs j := h.1.2.1.2
  have hw : rdM τ 1 (nQ i).toNatClampNeg = xs i := by rw [nQ_nat (by omega), x1]
  have a0 : aOk 2 τ 1 (nQ i) := by
    simp (disch := omega) only [aOk, t1, nQ_neg, nQ_nat, leF, or_false, not_false_eq_true, and_true]
  have n0 : ¬ (nQ (tkM τ 1).2 - nQ 6 < nQ i) := by
    rw [t1, cnd_l hL (by omega)]
    omega
  have cj : ∀ j, j < 35 → ¬ rdM τ 1 (nQ i).toNatClampNeg &&& nQ 63 = nQ j := fun j hj => by
    rw [hw, hop, nQ_eq (by omega) (by omega)]
    omega
  have b1 : kc + 1 ≤ 601024 := by omega
  have b2 : ks + 6 ≤ 7293034 := by omega
  obtain ⟨τ1, τ2, k, v, e1, e2, hk3, hk, hv, hE, hR, hb⟩ := s80b h (xs (i + 1))
  simp only [List.cons_append, List.nil_append] at e1
  have q1 : tkM τ1 1 = (2, L) := by
    rw [← hE.1]
    exact hR.1.2.1.1
  have q2 : ∀ j, rdM τ1 1 j = xs j := fun j => by
    rw [← hE.2 1 (by decide)]
    exact hR.1.2.1.2 j
  have m2 : tkM τ2 186 = (1, 5) := hR.1.1.2.2.2.2.1
  have m1 : tkM τ1 186 = (1, 5) := by
    rw [← hE.1]
    exact m2
  have m3 : tkM τ2 193 = (5, 1) := hR.1.1.2.2.1.2.2.2.2.2.2.2.2.2
  have e3 := d105 m2 hk
  refine ⟨τ2, kc + 1, ks + 6, some (.int (nQ k)), some (.int v), by omega, by omega, hR, ?_⟩
  refine (g223_23).trans ?_
  refine (if_pos (show (tkM τ 1).1 = 2 from congrArg (·.1) t1)).trans ?_
  refine (if_neg n0).trans ?_
  refine (if_pos a0).trans ?_
  refine (if_neg (cj 0 (by decide))).trans ?_
  refine (if_neg (cj 1 (by decide))).trans ?_
  refine (if_neg (cj 2 (by decide))).trans ?_
  refine (if_neg (cj 3 (by decide))).trans ?_
  refine (if_neg (cj 4 (by decide))).trans ?_
  refine (if_neg (cj 5 (by decide))).trans ?_
  refine (if_neg (cj 6 (by decide))).trans ?_
  refine (if_neg (cj 7 (by decide))).trans ?_
  refine (if_neg (cj 8 (by decide))).trans ?_
  refine (if_neg (cj 9 (by decide))).trans ?_
  refine (if_neg (cj 10 (by decide))).trans ?_
  refine (if_neg (cj 11 (by decide))).trans ?_
  refine (if_neg (cj 12 (by decide))).trans ?_
  refine (if_neg (cj 13 (by decide))).trans ?_
  refine (if_neg (cj 14 (by decide))).trans ?_
  refine (if_neg (cj 15 (by decide))).trans ?_
  refine (if_neg (cj 16 (by decide))).trans ?_
  refine (if_neg (cj 17 (by decide))).trans ?_
  refine (if_neg (cj 18 (by decide))).trans ?_
  refine (if_neg (cj 19 (by decide))).trans ?_
  refine (if_neg (cj 20 (by decide))).trans ?_
  refine (if_neg (cj 21 (by decide))).trans ?_
  refine (if_neg (cj 22 (by decide))).trans ?_
  refine (if_neg (cj 23 (by decide))).trans ?_
  refine (if_neg (cj 24 (by decide))).trans ?_
  refine (if_neg (cj 25 (by decide))).trans ?_
  refine (if_neg (cj 26 (by decide))).trans ?_
  refine (if_neg (cj 27 (by decide))).trans ?_
  refine (if_neg (cj 28 (by decide))).trans ?_
  refine (if_neg (cj 29 (by decide))).trans ?_
  refine (if_neg (cj 30 (by decide))).trans ?_
  refine (if_neg (cj 31 (by decide))).trans ?_
  refine (if_neg (cj 32 (by decide))).trans ?_
  refine (if_neg (cj 33 (by decide))).trans ?_
  refine (if_neg (cj 34 (by decide))).trans ?_
  refine (if_pos (show rdM τ 1 (nQ i).toNatClampNeg &&& nQ 63 = nQ 35 by rw [hw, hop])).trans ?_
  by_cases c : k = 0
  · have hv0 := hv c
    subst c
    have c10 : (nQ 1 = nQ 0) = False := by rw [nQ_eq (by decide) (by decide)]; exact eq_false (by decide)
    rcases hb with rfl | rfl
    · simp (disch := omega) only [aOk, eq_self, nQ_nat, nQ_neg, nQ_add, leF, cn_l, Option.toList, List.cons_append, List.nil_append, if_true, if_false, true_and, and_true, or_false, false_or, not_false_eq_true, List.all_cons, List.all_nil, o1_r, o1_i, Bool.and_self, Bool.and_true, Nat.le_refl, Nat.zero_le, t1, x1, b1, b2, e1, q1, q2, m1, m2, m3, e2, e3, hv0, lg_0, g223_2375, g223_2387, g223_2393, g223_2418, g223_2424]
    · simp (disch := omega) only [aOk, eq_self, nQ_nat, nQ_neg, nQ_add, leF, cn_l, Option.toList, List.cons_append, List.nil_append, if_true, if_false, true_and, and_true, or_false, false_or, not_false_eq_true, List.all_cons, List.all_nil, o1_r, o1_i, Bool.and_self, Bool.and_true, Nat.le_refl, Nat.zero_le, t1, x1, b1, b2, e1, q1, q2, m1, m2, m3, e2, e3, hv0, c10, lg_1, g223_2375, g223_2387, g223_2393, g223_2418, g223_2424]
  · have c0 : (nQ k = nQ 0) = False := by rw [nQ_eq (by omega) (by decide)]; exact eq_false c
    simp (disch := omega) only [aOk, eq_self, nQ_nat, nQ_neg, nQ_add, leF, cn_l, Option.toList, List.cons_append, List.nil_append, if_true, if_false, true_and, and_true, or_false, false_or, not_false_eq_true, List.all_cons, List.all_nil, o1_r, o1_i, Bool.and_self, Bool.and_true, Nat.le_refl, Nat.zero_le, t1, x1, b1, b2, e1, q1, q2, m1, m2, m3, e2, e3, c0, g223_2375, g223_2387, g223_2393, g223_2418, g223_2424]
theorem op_36 (h : RW L xs τ) (hL : L ≤ 3072) (hi : i + 6 ≤ L) (hkc : kc ≤ 500000) (hks : ks ≤ 7000000) (hop : xs i &&& nQ 63 = nQ 36) : NxP L xs τ i kc ks o5 o6 := by
  have t1 : tkM τ 1 = (2, L) := h.1.2.1.1
  have x1 : ∀ j, rdM τ 1 j = xs j := h.1.2.1.2
  have hw : rdM τ 1 (nQ i).toNatClampNeg = xs i := by rw [nQ_nat (by omega), x1]
  have a0 : aOk 2 τ 1 (nQ i) := by
    simp (disch := omega) only [aOk, t1, nQ_neg, nQ_nat, leF, or_false, not_false_eq_true, and_true]
  have n0 : ¬ (nQ (tkM τ 1).2 - nQ 6 < nQ i) := by
    rw [t1, cnd_l hL (by omega)]
    omega
  have cj : ∀ j, j < 36 → ¬ rdM τ 1 (nQ i).toNatClampNeg &&& nQ 63 = nQ j := fun j hj => by
    rw [hw, hop, nQ_eq (by omega) (by omega)]
    omega
  have b1 : kc ≤ 601024 := by omega
  have b2 : ks ≤ 7293034 := by omega
  obtain ⟨v, τ1, τ2, e1, e2, hE, hR⟩ := s81 h
  have m1 : tkM τ1 186 = (1, 5) := by
    rw [← hE.1]
    exact hR.1.1.2.2.2.2.1
  refine ⟨τ2, kc, ks, o5, o6, by omega, by omega, hR, ?_⟩
  refine (g223_23).trans ?_
  refine (if_pos (show (tkM τ 1).1 = 2 from congrArg (·.1) t1)).trans ?_
  refine (if_neg n0).trans ?_
  refine (if_pos a0).trans ?_
  refine (if_neg (cj 0 (by decide))).trans ?_
  refine (if_neg (cj 1 (by decide))).trans ?_
  refine (if_neg (cj 2 (by decide))).trans ?_
  refine (if_neg (cj 3 (by decide))).trans ?_
  refine (if_neg (cj 4 (by decide))).trans ?_
  refine (if_neg (cj 5 (by decide))).trans ?_
  refine (if_neg (cj 6 (by decide))).trans ?_
  refine (if_neg (cj 7 (by decide))).trans ?_
  refine (if_neg (cj 8 (by decide))).trans ?_
  refine (if_neg (cj 9 (by decide))).trans ?_
  refine (if_neg (cj 10 (by decide))).trans ?_
  refine (if_neg (cj 11 (by decide))).trans ?_
  refine (if_neg (cj 12 (by decide))).trans ?_
  refine (if_neg (cj 13 (by decide))).trans ?_
  refine (if_neg (cj 14 (by decide))).trans ?_
  refine (if_neg (cj 15 (by decide))).trans ?_
  refine (if_neg (cj 16 (by decide))).trans ?_
  refine (if_neg (cj 17 (by decide))).trans ?_
  refine (if_neg (cj 18 (by decide))).trans ?_
  refine (if_neg (cj 19 (by decide))).trans ?_
  refine (if_neg (cj 20 (by decide))).trans ?_
  refine (if_neg (cj 21 (by decide))).trans ?_
  refine (if_neg (cj 22 (by decide))).trans ?_
  refine (if_neg (cj 23 (by decide))).trans ?_
  refine (if_neg (cj 24 (by decide))).trans ?_
  refine (if_neg (cj 25 (by decide))).trans ?_
  refine (if_neg (cj 26 (by decide))).trans ?_
  refine (if_neg (cj 27 (by decide))).trans ?_
  refine (if_neg (cj 28 (by decide))).trans ?_
  refine (if_neg (cj 29 (by decide))).trans ?_
  refine (if_neg (cj 30 (by decide))).trans ?_
  refine (if_neg (cj 31 (by decide))).trans ?_
  refine (if_neg (cj 32 (by decide))).trans ?_
  refine (if_neg (cj 33 (by decide))).trans ?_
  refine (if_neg (cj 34 (by decide))).trans ?_
  refine (if_neg (cj 35 (by decide))).trans ?_
  refine (if_pos (show rdM τ 1 (nQ i).toNatClampNeg &&& nQ 63 = nQ 36 by rw [hw, hop])).trans ?_
  have w8 : tkM τ 8 = (1, 4) := h.1.1.1.1
  simp (disch := omega) only [aOk, eq_self, nQ_nat, nQ_neg, nQ_add, leF, cn_l, Option.toList, List.cons_append, List.nil_append, if_true, if_false, true_and, and_true, or_false, false_or, not_false_eq_true, List.all_cons, List.all_nil, o1_r, o1_i, Bool.and_self, Bool.and_true, Nat.le_refl, Nat.zero_le, Nat.reduceLeDiff, w8, b1, b2, e1, m1, e2, g223_2431, g223_2435]
theorem op_37 (h : RW L xs τ) (hL : L ≤ 3072) (hi : i + 6 ≤ L) (hkc : kc ≤ 500000) (hks : ks ≤ 7000000) (hop : xs i &&& nQ 63 = nQ 37) : NxP L xs τ i kc ks o5 o6 := by
  have t1 : tkM τ 1 = (2, L) := h.1.2.1.1
  have x1 : ∀ j, rdM τ 1 j = xs j := h.1.2.1.2
  have hw : rdM τ 1 (nQ i).toNatClampNeg = xs i := by rw [nQ_nat (by omega), x1]
  have a0 : aOk 2 τ 1 (nQ i) := by
    simp (disch := omega) only [aOk, t1, nQ_neg, nQ_nat, leF, or_false, not_false_eq_true, and_true]
  have n0 : ¬ (nQ (tkM τ 1).2 - nQ 6 < nQ i) := by
    rw [t1, cnd_l hL (by omega)]
    omega
  have cj : ∀ j, j < 37 → ¬ rdM τ 1 (nQ i).toNatClampNeg &&& nQ 63 = nQ j := fun j hj => by
    rw [hw, hop, nQ_eq (by omega) (by omega)]
    omega
  have b1 : kc ≤ 601024 := by omega
  have b2 : ks ≤ 7293034 := by omega
  obtain ⟨v, τ1, τ2, e1, e2, hE, hR⟩ := s82 h
  have m1 : tkM τ1 186 = (1, 5) := by
    rw [← hE.1]
    exact hR.1.1.2.2.2.2.1
  refine ⟨τ2, kc, ks, o5, o6, by omega, by omega, hR, ?_⟩
  refine (g223_23).trans ?_
  refine (if_pos (show (tkM τ 1).1 = 2 from congrArg (·.1) t1)).trans ?_
  refine (if_neg n0).trans ?_
  refine (if_pos a0).trans ?_
  refine (if_neg (cj 0 (by decide))).trans ?_
  refine (if_neg (cj 1 (by decide))).trans ?_
  refine (if_neg (cj 2 (by decide))).trans ?_
  refine (if_neg (cj 3 (by decide))).trans ?_
  refine (if_neg (cj 4 (by decide))).trans ?_
  refine (if_neg (cj 5 (by decide))).trans ?_
  refine (if_neg (cj 6 (by decide))).trans ?_
  refine (if_neg (cj 7 (by decide))).trans ?_
  refine (if_neg (cj 8 (by decide))).trans ?_
  refine (if_neg (cj 9 (by decide))).trans ?_
  refine (if_neg (cj 10 (by decide))).trans ?_
  refine (if_neg (cj 11 (by decide))).trans ?_
  refine (if_neg (cj 12 (by decide))).trans ?_
  refine (if_neg (cj 13 (by decide))).trans ?_
  refine (if_neg (cj 14 (by decide))).trans ?_
  refine (if_neg (cj 15 (by decide))).trans ?_
  refine (if_neg (cj 16 (by decide))).trans ?_
  refine (if_neg (cj 17 (by decide))).trans ?_
  refine (if_neg (cj 18 (by decide))).trans ?_
  refine (if_neg (cj 19 (by decide))).trans ?_
  refine (if_neg (cj 20 (by decide))).trans ?_
  refine (if_neg (cj 21 (by decide))).trans ?_
  refine (if_neg (cj 22 (by decide))).trans ?_
  refine (if_neg (cj 23 (by decide))).trans ?_
  refine (if_neg (cj 24 (by decide))).trans ?_
  refine (if_neg (cj 25 (by decide))).trans ?_
  refine (if_neg (cj 26 (by decide))).trans ?_
  refine (if_neg (cj 27 (by decide))).trans ?_
  refine (if_neg (cj 28 (by decide))).trans ?_
  refine (if_neg (cj 29 (by decide))).trans ?_
  refine (if_neg (cj 30 (by decide))).trans ?_
  refine (if_neg (cj 31 (by decide))).trans ?_
  refine (if_neg (cj 32 (by decide))).trans ?_
  refine (if_neg (cj 33 (by decide))).trans ?_
  refine (if_neg (cj 34 (by decide))).trans ?_
  refine (if_neg (cj 35 (by decide))).trans ?_
  refine (if_neg (cj 36 (by decide))).trans ?_
  refine (if_pos (show rdM τ 1 (nQ i).toNatClampNeg &&& nQ 63 = nQ 37 by rw [hw, hop])).trans ?_
  have w8 : tkM τ 8 = (1, 4) := h.1.1.1.1
  simp (disch := omega) only [aOk, eq_self, nQ_nat, nQ_neg, nQ_add, leF, cn_l, Option.toList, List.cons_append, List.nil_append, if_true, if_false, true_and, and_true, or_false, false_or, not_false_eq_true, List.all_cons, List.all_nil, o1_r, o1_i, Bool.and_self, Bool.and_true, Nat.le_refl, Nat.zero_le, Nat.reduceLeDiff, w8, b1, b2, e1, m1, e2, g223_2444, g223_2448]
theorem op_38 (h : RW L xs τ) (hL : L ≤ 3072) (hi : i + 6 ≤ L) (hkc : kc ≤ 500000) (hks : ks ≤ 7000000) (hop : xs i &&& nQ 63 = nQ 38) : NxP L xs τ i kc ks o5 o6 := by
  have t1 : tkM τ 1 = (2, L) := h.1.2.1.1
  have x1 : ∀ j, rdM τ 1 j = xs j := h.1.2.1.2
  have hw : rdM τ 1 (nQ i).toNatClampNeg = xs i := by rw [nQ_nat (by omega), x1]
  have a0 : aOk 2 τ 1 (nQ i) := by
    simp (disch := omega) only [aOk, t1, nQ_neg, nQ_nat, leF, or_false, not_false_eq_true, and_true]
  have n0 : ¬ (nQ (tkM τ 1).2 - nQ 6 < nQ i) := by
    rw [t1, cnd_l hL (by omega)]
    omega
  have cj : ∀ j, j < 38 → ¬ rdM τ 1 (nQ i).toNatClampNeg &&& nQ 63 = nQ j := fun j hj => by
    rw [hw, hop, nQ_eq (by omega) (by omega)]
    omega
  have b1 : kc + 2 ≤ 601024 := by omega
  have b2 : ks + 12 ≤ 7293034 := by omega
  obtain ⟨τ1, τ2, k, v, e1, e2, hk3, hk, hv, hE, hR⟩ := s83 h (xs (i + 1)) (xs (i + 2))
  simp only [List.cons_append, List.nil_append] at e1
  have q1 : tkM τ1 1 = (2, L) := by
    rw [← hE.1]
    exact hR.1.2.1.1
  have q2 : ∀ j, rdM τ1 1 j = xs j := fun j => by
    rw [← hE.2 1 (by decide)]
    exact hR.1.2.1.2 j
  have m2 : tkM τ2 186 = (1, 5) := hR.1.1.2.2.2.2.1
  have m1 : tkM τ1 186 = (1, 5) := by
    rw [← hE.1]
    exact m2
  have m3 : tkM τ2 193 = (5, 1) := hR.1.1.2.2.1.2.2.2.2.2.2.2.2.2
  have e3 := d105 m2 hk
  refine ⟨τ2, kc + 2, ks + 12, some (.int (nQ k)), some (.int v), by omega, by omega, hR, ?_⟩
  refine (g223_23).trans ?_
  refine (if_pos (show (tkM τ 1).1 = 2 from congrArg (·.1) t1)).trans ?_
  refine (if_neg n0).trans ?_
  refine (if_pos a0).trans ?_
  refine (if_neg (cj 0 (by decide))).trans ?_
  refine (if_neg (cj 1 (by decide))).trans ?_
  refine (if_neg (cj 2 (by decide))).trans ?_
  refine (if_neg (cj 3 (by decide))).trans ?_
  refine (if_neg (cj 4 (by decide))).trans ?_
  refine (if_neg (cj 5 (by decide))).trans ?_
  refine (if_neg (cj 6 (by decide))).trans ?_
  refine (if_neg (cj 7 (by decide))).trans ?_
  refine (if_neg (cj 8 (by decide))).trans ?_
  refine (if_neg (cj 9 (by decide))).trans ?_
  refine (if_neg (cj 10 (by decide))).trans ?_
  refine (if_neg (cj 11 (by decide))).trans ?_
  refine (if_neg (cj 12 (by decide))).trans ?_
  refine (if_neg (cj 13 (by decide))).trans ?_
  refine (if_neg (cj 14 (by decide))).trans ?_
  refine (if_neg (cj 15 (by decide))).trans ?_
  refine (if_neg (cj 16 (by decide))).trans ?_
  refine (if_neg (cj 17 (by decide))).trans ?_
  refine (if_neg (cj 18 (by decide))).trans ?_
  refine (if_neg (cj 19 (by decide))).trans ?_
  refine (if_neg (cj 20 (by decide))).trans ?_
  refine (if_neg (cj 21 (by decide))).trans ?_
  refine (if_neg (cj 22 (by decide))).trans ?_
  refine (if_neg (cj 23 (by decide))).trans ?_
  refine (if_neg (cj 24 (by decide))).trans ?_
  refine (if_neg (cj 25 (by decide))).trans ?_
  refine (if_neg (cj 26 (by decide))).trans ?_
  refine (if_neg (cj 27 (by decide))).trans ?_
  refine (if_neg (cj 28 (by decide))).trans ?_
  refine (if_neg (cj 29 (by decide))).trans ?_
  refine (if_neg (cj 30 (by decide))).trans ?_
  refine (if_neg (cj 31 (by decide))).trans ?_
  refine (if_neg (cj 32 (by decide))).trans ?_
  refine (if_neg (cj 33 (by decide))).trans ?_
  refine (if_neg (cj 34 (by decide))).trans ?_
  refine (if_neg (cj 35 (by decide))).trans ?_
  refine (if_neg (cj 36 (by decide))).trans ?_
  refine (if_neg (cj 37 (by decide))).trans ?_
  refine (if_pos (show rdM τ 1 (nQ i).toNatClampNeg &&& nQ 63 = nQ 38 by rw [hw, hop])).trans ?_
  by_cases c : k = 0
  · have hv0 := hv c
    subst c
    simp (disch := omega) only [aOk, eq_self, nQ_nat, nQ_neg, nQ_add, leF, cn_l, Option.toList, List.cons_append, List.nil_append, if_true, if_false, true_and, and_true, or_false, false_or, not_false_eq_true, List.all_cons, List.all_nil, o1_r, o1_i, Bool.and_self, Bool.and_true, Nat.le_refl, Nat.zero_le, t1, x1, b1, b2, e1, q1, q2, m1, m2, m3, e2, e3, hv0, lg_r, g223_2470, g223_2488, g223_2494, g223_2518]
  · have c0 : (nQ k = nQ 0) = False := by rw [nQ_eq (by omega) (by decide)]; exact eq_false c
    simp (disch := omega) only [aOk, eq_self, nQ_nat, nQ_neg, nQ_add, leF, cn_l, Option.toList, List.cons_append, List.nil_append, if_true, if_false, true_and, and_true, or_false, false_or, not_false_eq_true, List.all_cons, List.all_nil, o1_r, o1_i, Bool.and_self, Bool.and_true, Nat.le_refl, Nat.zero_le, t1, x1, b1, b2, e1, q1, q2, m1, m2, m3, e2, e3, c0, g223_2470, g223_2488, g223_2494, g223_2518]
theorem op_39 (h : RW L xs τ) (hL : L ≤ 3072) (hi : i + 6 ≤ L) (hkc : kc ≤ 500000) (hks : ks ≤ 7000000) (hop : xs i &&& nQ 63 = nQ 39) : NxP L xs τ i kc ks o5 o6 := by
  have t1 : tkM τ 1 = (2, L) := h.1.2.1.1
  have x1 : ∀ j, rdM τ 1 j = xs j := h.1.2.1.2
  have hw : rdM τ 1 (nQ i).toNatClampNeg = xs i := by rw [nQ_nat (by omega), x1]
  have a0 : aOk 2 τ 1 (nQ i) := by
    simp (disch := omega) only [aOk, t1, nQ_neg, nQ_nat, leF, or_false, not_false_eq_true, and_true]
  have n0 : ¬ (nQ (tkM τ 1).2 - nQ 6 < nQ i) := by
    rw [t1, cnd_l hL (by omega)]
    omega
  have cj : ∀ j, j < 39 → ¬ rdM τ 1 (nQ i).toNatClampNeg &&& nQ 63 = nQ j := fun j hj => by
    rw [hw, hop, nQ_eq (by omega) (by omega)]
    omega
  have b1 : kc ≤ 601024 := by omega
  have b2 : ks ≤ 7293034 := by omega
  obtain ⟨v, τ1, τ2, e1, e2, hE, hR⟩ := s84 h
  have m1 : tkM τ1 186 = (1, 5) := by
    rw [← hE.1]
    exact hR.1.1.2.2.2.2.1
  refine ⟨τ2, kc, ks, o5, o6, by omega, by omega, hR, ?_⟩
  refine (g223_23).trans ?_
  refine (if_pos (show (tkM τ 1).1 = 2 from congrArg (·.1) t1)).trans ?_
  refine (if_neg n0).trans ?_
  refine (if_pos a0).trans ?_
  refine (if_neg (cj 0 (by decide))).trans ?_
  refine (if_neg (cj 1 (by decide))).trans ?_
  refine (if_neg (cj 2 (by decide))).trans ?_
  refine (if_neg (cj 3 (by decide))).trans ?_
  refine (if_neg (cj 4 (by decide))).trans ?_
  refine (if_neg (cj 5 (by decide))).trans ?_
  refine (if_neg (cj 6 (by decide))).trans ?_
  refine (if_neg (cj 7 (by decide))).trans ?_
  refine (if_neg (cj 8 (by decide))).trans ?_
  refine (if_neg (cj 9 (by decide))).trans ?_
  refine (if_neg (cj 10 (by decide))).trans ?_
  refine (if_neg (cj 11 (by decide))).trans ?_
  refine (if_neg (cj 12 (by decide))).trans ?_
  refine (if_neg (cj 13 (by decide))).trans ?_
  refine (if_neg (cj 14 (by decide))).trans ?_
  refine (if_neg (cj 15 (by decide))).trans ?_
  refine (if_neg (cj 16 (by decide))).trans ?_
  refine (if_neg (cj 17 (by decide))).trans ?_
  refine (if_neg (cj 18 (by decide))).trans ?_
  refine (if_neg (cj 19 (by decide))).trans ?_
  refine (if_neg (cj 20 (by decide))).trans ?_
  refine (if_neg (cj 21 (by decide))).trans ?_
  refine (if_neg (cj 22 (by decide))).trans ?_
  refine (if_neg (cj 23 (by decide))).trans ?_
  refine (if_neg (cj 24 (by decide))).trans ?_
  refine (if_neg (cj 25 (by decide))).trans ?_
  refine (if_neg (cj 26 (by decide))).trans ?_
  refine (if_neg (cj 27 (by decide))).trans ?_
  refine (if_neg (cj 28 (by decide))).trans ?_
  refine (if_neg (cj 29 (by decide))).trans ?_
  refine (if_neg (cj 30 (by decide))).trans ?_
  refine (if_neg (cj 31 (by decide))).trans ?_
  refine (if_neg (cj 32 (by decide))).trans ?_
  refine (if_neg (cj 33 (by decide))).trans ?_
  refine (if_neg (cj 34 (by decide))).trans ?_
  refine (if_neg (cj 35 (by decide))).trans ?_
  refine (if_neg (cj 36 (by decide))).trans ?_
  refine (if_neg (cj 37 (by decide))).trans ?_
  refine (if_neg (cj 38 (by decide))).trans ?_
  refine (if_pos (show rdM τ 1 (nQ i).toNatClampNeg &&& nQ 63 = nQ 39 by rw [hw, hop])).trans ?_
  have w8 : tkM τ 8 = (1, 4) := h.1.1.1.1
  simp (disch := omega) only [aOk, eq_self, nQ_nat, nQ_neg, nQ_add, leF, cn_l, Option.toList, List.cons_append, List.nil_append, if_true, if_false, true_and, and_true, or_false, false_or, not_false_eq_true, List.all_cons, List.all_nil, o1_r, o1_i, Bool.and_self, Bool.and_true, Nat.le_refl, Nat.zero_le, Nat.reduceLeDiff, w8, b1, b2, e1, m1, e2, g223_2525, g223_2529]
theorem op_40 (h : RW L xs τ) (hL : L ≤ 3072) (hi : i + 6 ≤ L) (hkc : kc ≤ 500000) (hks : ks ≤ 7000000) (hop : xs i &&& nQ 63 = nQ 40) : NxP L xs τ i kc ks o5 o6 := by
  have t1 : tkM τ 1 = (2, L) := h.1.2.1.1
  have x1 : ∀ j, rdM τ 1 j = xs j := h.1.2.1.2
  have hw : rdM τ 1 (nQ i).toNatClampNeg = xs i := by rw [nQ_nat (by omega), x1]
  have a0 : aOk 2 τ 1 (nQ i) := by
    simp (disch := omega) only [aOk, t1, nQ_neg, nQ_nat, leF, or_false, not_false_eq_true, and_true]
  have n0 : ¬ (nQ (tkM τ 1).2 - nQ 6 < nQ i) := by
    rw [t1, cnd_l hL (by omega)]
    omega
  have cj : ∀ j, j < 40 → ¬ rdM τ 1 (nQ i).toNatClampNeg &&& nQ 63 = nQ j := fun j hj => by
    rw [hw, hop, nQ_eq (by omega) (by omega)]
    omega
  have b1 : kc ≤ 601024 := by omega
  have b2 : ks ≤ 7293034 := by omega
  obtain ⟨v, τ1, τ2, e1, e2, hE, hR⟩ := s85 h
  have m1 : tkM τ1 186 = (1, 5) := by
    rw [← hE.1]
    exact hR.1.1.2.2.2.2.1
  refine ⟨τ2, kc, ks, o5, o6, by omega, by omega, hR, ?_⟩
  refine (g223_23).trans ?_
  refine (if_pos (show (tkM τ 1).1 = 2 from congrArg (·.1) t1)).trans ?_
  refine (if_neg n0).trans ?_
  refine (if_pos a0).trans ?_
  refine (if_neg (cj 0 (by decide))).trans ?_
  refine (if_neg (cj 1 (by decide))).trans ?_
  refine (if_neg (cj 2 (by decide))).trans ?_
  refine (if_neg (cj 3 (by decide))).trans ?_
  refine (if_neg (cj 4 (by decide))).trans ?_
  refine (if_neg (cj 5 (by decide))).trans ?_
  refine (if_neg (cj 6 (by decide))).trans ?_
  refine (if_neg (cj 7 (by decide))).trans ?_
  refine (if_neg (cj 8 (by decide))).trans ?_
  refine (if_neg (cj 9 (by decide))).trans ?_
  refine (if_neg (cj 10 (by decide))).trans ?_
  refine (if_neg (cj 11 (by decide))).trans ?_
  refine (if_neg (cj 12 (by decide))).trans ?_
  refine (if_neg (cj 13 (by decide))).trans ?_
  refine (if_neg (cj 14 (by decide))).trans ?_
  refine (if_neg (cj 15 (by decide))).trans ?_
  refine (if_neg (cj 16 (by decide))).trans ?_
  refine (if_neg (cj 17 (by decide))).trans ?_
  refine (if_neg (cj 18 (by decide))).trans ?_
  refine (if_neg (cj 19 (by decide))).trans ?_
  refine (if_neg (cj 20 (by decide))).trans ?_
  refine (if_neg (cj 21 (by decide))).trans ?_
  refine (if_neg (cj 22 (by decide))).trans ?_
  refine (if_neg (cj 23 (by decide))).trans ?_
  refine (if_neg (cj 24 (by decide))).trans ?_
  refine (if_neg (cj 25 (by decide))).trans ?_
  refine (if_neg (cj 26 (by decide))).trans ?_
  refine (if_neg (cj 27 (by decide))).trans ?_
  refine (if_neg (cj 28 (by decide))).trans ?_
  refine (if_neg (cj 29 (by decide))).trans ?_
  refine (if_neg (cj 30 (by decide))).trans ?_
  refine (if_neg (cj 31 (by decide))).trans ?_
  refine (if_neg (cj 32 (by decide))).trans ?_
  refine (if_neg (cj 33 (by decide))).trans ?_
  refine (if_neg (cj 34 (by decide))).trans ?_
  refine (if_neg (cj 35 (by decide))).trans ?_
  refine (if_neg (cj 36 (by decide))).trans ?_
  refine (if_neg (cj 37 (by decide))).trans ?_
  refine (if_neg (cj 38 (by decide))).trans ?_
  refine (if_neg (cj 39 (by decide))).trans ?_
  refine (if_pos (show rdM τ 1 (nQ i).toNatClampNeg &&& nQ 63 = nQ 40 by rw [hw, hop])).trans ?_
  have w8 : tkM τ 8 = (1, 4) := h.1.1.1.1
  simp (disch := omega) only [aOk, eq_self, nQ_nat, nQ_neg, nQ_add, leF, cn_l, Option.toList, List.cons_append, List.nil_append, if_true, if_false, true_and, and_true, or_false, false_or, not_false_eq_true, List.all_cons, List.all_nil, o1_r, o1_i, Bool.and_self, Bool.and_true, Nat.le_refl, Nat.zero_le, Nat.reduceLeDiff, w8, b1, b2, e1, m1, e2, g223_2538, g223_2542]
theorem op_41 (h : RW L xs τ) (hL : L ≤ 3072) (hi : i + 6 ≤ L) (hkc : kc ≤ 500000) (hks : ks ≤ 7000000) (hop : xs i &&& nQ 63 = nQ 41) : NxP L xs τ i kc ks o5 o6 := by
  have t1 : tkM τ 1 = (2, L) := h.1.2.1.1
  have x1 : ∀ j, rdM τ 1 j = xs j := h.1.2.1.2
  have hw : rdM τ 1 (nQ i).toNatClampNeg = xs i := by rw [nQ_nat (by omega), x1]
  have a0 : aOk 2 τ 1 (nQ i) := by
    simp (disch := omega) only [aOk, t1, nQ_neg, nQ_nat, leF, or_false, not_false_eq_true, and_true]
  have n0 : ¬ (nQ (tkM τ 1).2 - nQ 6 < nQ i) := by
    rw [t1, cnd_l hL (by omega)]
    omega
  have cj : ∀ j, j < 41 → ¬ rdM τ 1 (nQ i).toNatClampNeg &&& nQ 63 = nQ j := fun j hj => by
    rw [hw, hop, nQ_eq (by omega) (by omega)]
    omega
  have b1 : kc ≤ 601024 := by omega
  have b2 : ks ≤ 7293034 := by omega
  obtain ⟨v, τ1, τ2, e1, e2, hE, hR⟩ := s86 h
  have m1 : tkM τ1 186 = (1, 5) := by
    rw [← hE.1]
    exact hR.1.1.2.2.2.2.1
  refine ⟨τ2, kc, ks, o5, o6, by omega, by omega, hR, ?_⟩
  refine (g223_23).trans ?_
  refine (if_pos (show (tkM τ 1).1 = 2 from congrArg (·.1) t1)).trans ?_
  refine (if_neg n0).trans ?_
  refine (if_pos a0).trans ?_
  refine (if_neg (cj 0 (by decide))).trans ?_
  refine (if_neg (cj 1 (by decide))).trans ?_
  refine (if_neg (cj 2 (by decide))).trans ?_
  refine (if_neg (cj 3 (by decide))).trans ?_
  refine (if_neg (cj 4 (by decide))).trans ?_
  refine (if_neg (cj 5 (by decide))).trans ?_
  refine (if_neg (cj 6 (by decide))).trans ?_
  refine (if_neg (cj 7 (by decide))).trans ?_
  refine (if_neg (cj 8 (by decide))).trans ?_
  refine (if_neg (cj 9 (by decide))).trans ?_
  refine (if_neg (cj 10 (by decide))).trans ?_
  refine (if_neg (cj 11 (by decide))).trans ?_
  refine (if_neg (cj 12 (by decide))).trans ?_
  refine (if_neg (cj 13 (by decide))).trans ?_
  refine (if_neg (cj 14 (by decide))).trans ?_
  refine (if_neg (cj 15 (by decide))).trans ?_
  refine (if_neg (cj 16 (by decide))).trans ?_
  refine (if_neg (cj 17 (by decide))).trans ?_
  refine (if_neg (cj 18 (by decide))).trans ?_
  refine (if_neg (cj 19 (by decide))).trans ?_
  refine (if_neg (cj 20 (by decide))).trans ?_
  refine (if_neg (cj 21 (by decide))).trans ?_
  refine (if_neg (cj 22 (by decide))).trans ?_
  refine (if_neg (cj 23 (by decide))).trans ?_
  refine (if_neg (cj 24 (by decide))).trans ?_
  refine (if_neg (cj 25 (by decide))).trans ?_
  refine (if_neg (cj 26 (by decide))).trans ?_
  refine (if_neg (cj 27 (by decide))).trans ?_
  refine (if_neg (cj 28 (by decide))).trans ?_
  refine (if_neg (cj 29 (by decide))).trans ?_
  refine (if_neg (cj 30 (by decide))).trans ?_
  refine (if_neg (cj 31 (by decide))).trans ?_
  refine (if_neg (cj 32 (by decide))).trans ?_
  refine (if_neg (cj 33 (by decide))).trans ?_
  refine (if_neg (cj 34 (by decide))).trans ?_
  refine (if_neg (cj 35 (by decide))).trans ?_
  refine (if_neg (cj 36 (by decide))).trans ?_
  refine (if_neg (cj 37 (by decide))).trans ?_
  refine (if_neg (cj 38 (by decide))).trans ?_
  refine (if_neg (cj 39 (by decide))).trans ?_
  refine (if_neg (cj 40 (by decide))).trans ?_
  refine (if_pos (show rdM τ 1 (nQ i).toNatClampNeg &&& nQ 63 = nQ 41 by rw [hw, hop])).trans ?_
  have w8 : tkM τ 8 = (1, 4) := h.1.1.1.1
  simp (disch := omega) only [aOk, eq_self, nQ_nat, nQ_neg, nQ_add, leF, cn_l, Option.toList, List.cons_append, List.nil_append, if_true, if_false, true_and, and_true, or_false, false_or, not_false_eq_true, List.all_cons, List.all_nil, o1_r, o1_i, Bool.and_self, Bool.and_true, Nat.le_refl, Nat.zero_le, Nat.reduceLeDiff, w8, b1, b2, e1, m1, e2, g223_2551, g223_2555]
theorem op_d (h : RW L xs τ) (hL : L ≤ 3072) (hi : i + 6 ≤ L) (hkc : kc ≤ 500000) (hks : ks ≤ 7000000) (cj : ∀ j, j < 42 → ¬ xs i &&& nQ 63 = nQ j) : NxP L xs τ i kc ks o5 o6 := by
  have t1 : tkM τ 1 = (2, L) := h.1.2.1.1
  have x1 : ∀ j, rdM τ 1 j = xs j := h.1.2.1.2
  have hw : rdM τ 1 (nQ i).toNatClampNeg = xs i := by rw [nQ_nat (by omega), x1]
  have a0 : aOk 2 τ 1 (nQ i) := by
    simp (disch := omega) only [aOk, t1, nQ_neg, nQ_nat, leF, or_false, not_false_eq_true, and_true]
  have n0 : ¬ (nQ (tkM τ 1).2 - nQ 6 < nQ i) := by
    rw [t1, cnd_l hL (by omega)]
    omega
  replace cj : ∀ j, j < 42 → ¬ rdM τ 1 (nQ i).toNatClampNeg &&& nQ 63 = nQ j := fun j hj => by
    rw [hw]
    exact cj j hj
  refine ⟨τ, kc, ks, o5, o6, by omega, by omega, h, ?_⟩
  refine (g223_23).trans ?_
  refine (if_pos (show (tkM τ 1).1 = 2 from congrArg (·.1) t1)).trans ?_
  refine (if_neg n0).trans ?_
  refine (if_pos a0).trans ?_
  refine (if_neg (cj 0 (by decide))).trans ?_
  refine (if_neg (cj 1 (by decide))).trans ?_
  refine (if_neg (cj 2 (by decide))).trans ?_
  refine (if_neg (cj 3 (by decide))).trans ?_
  refine (if_neg (cj 4 (by decide))).trans ?_
  refine (if_neg (cj 5 (by decide))).trans ?_
  refine (if_neg (cj 6 (by decide))).trans ?_
  refine (if_neg (cj 7 (by decide))).trans ?_
  refine (if_neg (cj 8 (by decide))).trans ?_
  refine (if_neg (cj 9 (by decide))).trans ?_
  refine (if_neg (cj 10 (by decide))).trans ?_
  refine (if_neg (cj 11 (by decide))).trans ?_
  refine (if_neg (cj 12 (by decide))).trans ?_
  refine (if_neg (cj 13 (by decide))).trans ?_
  refine (if_neg (cj 14 (by decide))).trans ?_
  refine (if_neg (cj 15 (by decide))).trans ?_
  refine (if_neg (cj 16 (by decide))).trans ?_
  refine (if_neg (cj 17 (by decide))).trans ?_
  refine (if_neg (cj 18 (by decide))).trans ?_
  refine (if_neg (cj 19 (by decide))).trans ?_
  refine (if_neg (cj 20 (by decide))).trans ?_
  refine (if_neg (cj 21 (by decide))).trans ?_
  refine (if_neg (cj 22 (by decide))).trans ?_
  refine (if_neg (cj 23 (by decide))).trans ?_
  refine (if_neg (cj 24 (by decide))).trans ?_
  refine (if_neg (cj 25 (by decide))).trans ?_
  refine (if_neg (cj 26 (by decide))).trans ?_
  refine (if_neg (cj 27 (by decide))).trans ?_
  refine (if_neg (cj 28 (by decide))).trans ?_
  refine (if_neg (cj 29 (by decide))).trans ?_
  refine (if_neg (cj 30 (by decide))).trans ?_
  refine (if_neg (cj 31 (by decide))).trans ?_
  refine (if_neg (cj 32 (by decide))).trans ?_
  refine (if_neg (cj 33 (by decide))).trans ?_
  refine (if_neg (cj 34 (by decide))).trans ?_
  refine (if_neg (cj 35 (by decide))).trans ?_
  refine (if_neg (cj 36 (by decide))).trans ?_
  refine (if_neg (cj 37 (by decide))).trans ?_
  refine (if_neg (cj 38 (by decide))).trans ?_
  refine (if_neg (cj 39 (by decide))).trans ?_
  refine (if_neg (cj 40 (by decide))).trans ?_
  refine (if_neg (cj 41 (by decide))).trans ?_
  rfl
theorem op_all (h : RW L xs τ) (hL : L ≤ 3072) (hi : i + 6 ≤ L) (hkc : kc ≤ 500000) (hks : ks ≤ 7000000) : NxP L xs τ i kc ks o5 o6 := by
  by_cases c0_ : xs i &&& nQ 63 = nQ 0
  · exact op_0 h hL hi hkc hks c0_
  by_cases c1_ : xs i &&& nQ 63 = nQ 1
  · exact op_1 h hL hi hkc hks c1_
  by_cases c2_ : xs i &&& nQ 63 = nQ 2
  · exact op_2 h hL hi hkc hks c2_
  by_cases c3_ : xs i &&& nQ 63 = nQ 3
  · exact op_3 h hL hi hkc hks c3_
  by_cases c4_ : xs i &&& nQ 63 = nQ 4
  · exact op_4 h hL hi hkc hks c4_
  by_cases c5_ : xs i &&& nQ 63 = nQ 5
  · exact op_5 h hL hi hkc hks c5_
  by_cases c6_ : xs i &&& nQ 63 = nQ 6
  · exact op_6 h hL hi hkc hks c6_
  by_cases c7_ : xs i &&& nQ 63 = nQ 7
  · exact op_7 h hL hi hkc hks c7_
  by_cases c8_ : xs i &&& nQ 63 = nQ 8
  · exact op_8 h hL hi hkc hks c8_
  by_cases c9_ : xs i &&& nQ 63 = nQ 9
  · exact op_9 h hL hi hkc hks c9_
  by_cases c10_ : xs i &&& nQ 63 = nQ 10
  · exact op_10 h hL hi hkc hks c10_
  by_cases c11_ : xs i &&& nQ 63 = nQ 11
  · exact op_11 h hL hi hkc hks c11_
  by_cases c12_ : xs i &&& nQ 63 = nQ 12
  · exact op_12 h hL hi hkc hks c12_
  by_cases c13_ : xs i &&& nQ 63 = nQ 13
  · exact op_13 h hL hi hkc hks c13_
  by_cases c14_ : xs i &&& nQ 63 = nQ 14
  · exact op_14 h hL hi hkc hks c14_
  by_cases c15_ : xs i &&& nQ 63 = nQ 15
  · exact op_15 h hL hi hkc hks c15_
  by_cases c16_ : xs i &&& nQ 63 = nQ 16
  · exact op_16 h hL hi hkc hks c16_
  by_cases c17_ : xs i &&& nQ 63 = nQ 17
  · exact op_17 h hL hi hkc hks c17_
  by_cases c18_ : xs i &&& nQ 63 = nQ 18
  · exact op_18 h hL hi hkc hks c18_
  by_cases c19_ : xs i &&& nQ 63 = nQ 19
  · exact op_19 h hL hi hkc hks c19_
  by_cases c20_ : xs i &&& nQ 63 = nQ 20
  · exact op_20 h hL hi hkc hks c20_
  by_cases c21_ : xs i &&& nQ 63 = nQ 21
  · exact op_21 h hL hi hkc hks c21_
  by_cases c22_ : xs i &&& nQ 63 = nQ 22
  · exact op_22 h hL hi hkc hks c22_
  by_cases c23_ : xs i &&& nQ 63 = nQ 23
  · exact op_23 h hL hi hkc hks c23_
  by_cases c24_ : xs i &&& nQ 63 = nQ 24
  · exact op_24 h hL hi hkc hks c24_
  by_cases c25_ : xs i &&& nQ 63 = nQ 25
  · exact op_25 h hL hi hkc hks c25_
  by_cases c26_ : xs i &&& nQ 63 = nQ 26
  · exact op_26 h hL hi hkc hks c26_
  by_cases c27_ : xs i &&& nQ 63 = nQ 27
  · exact op_27 h hL hi hkc hks c27_
  by_cases c28_ : xs i &&& nQ 63 = nQ 28
  · exact op_28 h hL hi hkc hks c28_
  by_cases c29_ : xs i &&& nQ 63 = nQ 29
  · exact op_29 h hL hi hkc hks c29_
  by_cases c30_ : xs i &&& nQ 63 = nQ 30
  · exact op_30 h hL hi hkc hks c30_
  by_cases c31_ : xs i &&& nQ 63 = nQ 31
  · exact op_31 h hL hi hkc hks c31_
  by_cases c32_ : xs i &&& nQ 63 = nQ 32
  · exact op_32 h hL hi hkc hks c32_
  by_cases c33_ : xs i &&& nQ 63 = nQ 33
  · exact op_33 h hL hi hkc hks c33_
  by_cases c34_ : xs i &&& nQ 63 = nQ 34
  · exact op_34 h hL hi hkc hks c34_
  by_cases c35_ : xs i &&& nQ 63 = nQ 35
  · exact op_35 h hL hi hkc hks c35_
  by_cases c36_ : xs i &&& nQ 63 = nQ 36
  · exact op_36 h hL hi hkc hks c36_
  by_cases c37_ : xs i &&& nQ 63 = nQ 37
  · exact op_37 h hL hi hkc hks c37_
  by_cases c38_ : xs i &&& nQ 63 = nQ 38
  · exact op_38 h hL hi hkc hks c38_
  by_cases c39_ : xs i &&& nQ 63 = nQ 39
  · exact op_39 h hL hi hkc hks c39_
  by_cases c40_ : xs i &&& nQ 63 = nQ 40
  · exact op_40 h hL hi hkc hks c40_
  by_cases c41_ : xs i &&& nQ 63 = nQ 41
  · exact op_41 h hL hi hkc hks c41_
  refine op_d h hL hi hkc hks (fun j hj => ?_)
  rcases (show j = 0 ∨ j = 1 ∨ j = 2 ∨ j = 3 ∨ j = 4 ∨ j = 5 ∨ j = 6 ∨ j = 7 ∨ j = 8 ∨ j = 9 ∨ j = 10 ∨ j = 11 ∨ j = 12 ∨ j = 13 ∨ j = 14 ∨ j = 15 ∨ j = 16 ∨ j = 17 ∨ j = 18 ∨ j = 19 ∨ j = 20 ∨ j = 21 ∨ j = 22 ∨ j = 23 ∨ j = 24 ∨ j = 25 ∨ j = 26 ∨ j = 27 ∨ j = 28 ∨ j = 29 ∨ j = 30 ∨ j = 31 ∨ j = 32 ∨ j = 33 ∨ j = 34 ∨ j = 35 ∨ j = 36 ∨ j = 37 ∨ j = 38 ∨ j = 39 ∨ j = 40 ∨ j = 41 by omega) with rfl | rfl | rfl | rfl | rfl | rfl | rfl | rfl | rfl | rfl | rfl | rfl | rfl | rfl | rfl | rfl | rfl | rfl | rfl | rfl | rfl | rfl | rfl | rfl | rfl | rfl | rfl | rfl | rfl | rfl | rfl | rfl | rfl | rfl | rfl | rfl | rfl | rfl | rfl | rfl | rfl | rfl
  · exact c0_
  · exact c1_
  · exact c2_
  · exact c3_
  · exact c4_
  · exact c5_
  · exact c6_
  · exact c7_
  · exact c8_
  · exact c9_
  · exact c10_
  · exact c11_
  · exact c12_
  · exact c13_
  · exact c14_
  · exact c15_
  · exact c16_
  · exact c17_
  · exact c18_
  · exact c19_
  · exact c20_
  · exact c21_
  · exact c22_
  · exact c23_
  · exact c24_
  · exact c25_
  · exact c26_
  · exact c27_
  · exact c28_
  · exact c29_
  · exact c30_
  · exact c31_
  · exact c32_
  · exact c33_
  · exact c34_
  · exact c35_
  · exact c36_
  · exact c37_
  · exact c38_
  · exact c39_
  · exact c40_
  · exact c41_
theorem law_l (hL : L ≤ 3072) : ∀ (m i kc ks : Nat) (τ : Mem) (o5 o6 : Option Value), L < i + 6 * m + 6 → i ≤ 3078 → kc ≤ 186 + i → ks ≤ 7434 + 6 * i → RW L xs τ → ∃ σ', RuM 223 (23, lsL i o5 o6, [], kc, ks) τ = some (.inl (some (.int 1)), σ') := by
  intro m
  induction m with
  | zero =>
    intro i kc ks τ o5 o6 hm hi hkc hks h
    have t1 : tkM τ 1 = (2, L) := h.1.2.1.1
    have n0 : nQ (tkM τ 1).2 - nQ 6 < nQ i := by
      rw [t1, cnd_l hL (by omega)]
      omega
    refine ⟨τ, ?_⟩
    refine (g223_23).trans ?_
    refine (if_pos (show (tkM τ 1).1 = 2 from congrArg (·.1) t1)).trans ?_
    refine (if_pos n0).trans ?_
    exact if_pos ⟨by omega, by omega⟩
  | succ m ih =>
    intro i kc ks τ o5 o6 hm hi hkc hks h
    by_cases c : L < i + 6
    · have t1 : tkM τ 1 = (2, L) := h.1.2.1.1
      have n0 : nQ (tkM τ 1).2 - nQ 6 < nQ i := by
        rw [t1, cnd_l hL (by omega)]
        exact c
      refine ⟨τ, ?_⟩
      refine (g223_23).trans ?_
      refine (if_pos (show (tkM τ 1).1 = 2 from congrArg (·.1) t1)).trans ?_
      refine (if_pos n0).trans ?_
      exact if_pos ⟨by omega, by omega⟩
    · obtain ⟨τ', kc', ks', p5, p6, y1, y2, y3, y4⟩ := op_all (i := i) (o5 := o5) (o6 := o6) h hL (by omega) (kc := kc) (ks := ks) (by omega) (by omega)
      obtain ⟨σ', z⟩ := ih (i + 6) kc' ks' τ' p5 p6 (by omega) (by omega) (by omega) (by omega) y3
      refine ⟨σ', ?_⟩
      rw [y4, g223_2560, nQ_add]
      exact z
end Ya
theorem law_run (L : Nat) (xs : Nat → Int32) (hL : L ≤ 3072) : ∃ σ', DoM 223 [.ref 1] (m0M L xs) = some (.inl (some (.int 1)), σ') := by
  obtain ⟨τ, x1, h⟩ := law_0 L xs
  obtain ⟨σ', z⟩ := law_l hL 513 0 186 7434 τ none none (by omega) (by omega) (by omega) (by omega) h
  exact ⟨σ', x1.trans z⟩
