/-! The class's object as it is made. -/
theorem al1 (r : Nat) : ([Value.ref r].all isOne = true) = True := eq_true rfl
section Na
variable {L : Nat} {xs : Nat → Int32} {σ : Mem} {n j : Nat}
theorem Bn_nw (h : Bn L xs σ n) (hn : n = 43 ∨ n = 146 ∨ n = 181 ∨ n = 185) (hp : PT 8 j (n + 1) n) {k l : Nat} (h1 : n = 43 → (k, l) = (6, 6)) (h2 : n = 146 → (k, l) = (6, 2)) (h3 : n = 181 → (k, l) = (3, 2)) (h4 : n = 185 → (k, l) = (2, 60)) : Bn L xs (wpM (nwM σ k l) 8 j n) (n + 1) := by
  have a1 := h.1
  have hg := Gr_nw a1 k l
  have et := tk_nw σ k l
  have er := rd_nw σ k l
  rw [a1] at et er
  refine Bn_st h hg (by rw [nx_nw, a1]) (by omega) hp (fun v' j' t x' hP q1 q2 => ?_) ⟨fun b hb q1 q2 => ?_, ⟨fun q1 q2 => ?_, fun q1 q2 => ?_, fun q1 q2 => ?_, fun q1 q2 => ?_⟩, fun q1 q2 => ?_⟩
  · clear h hg et er a1 h1 h2 h3 h4
    unfold PT at hp hP
    omega
  · exfalso
    rcases hb with rfl | rfl | ⟨i, hi, rfl⟩ | ⟨i, hi, rfl⟩ <;> omega
  · obtain rfl : n = 43 := by omega
    exact et.trans (h1 rfl)
  · obtain rfl : n = 146 := by omega
    exact et.trans (h2 rfl)
  · obtain rfl : n = 181 := by omega
    exact ⟨et.trans (h3 rfl), fun i => er i⟩
  · obtain rfl : n = 185 := by omega
    exact et.trans (h4 rfl)
  · exfalso
    omega
theorem Bn_wr (h : Bn L xs σ n) : Bn L xs (wrM σ 8 3 (nQ 0)) n := by
  obtain ⟨a1, a2, a3, a4, a5, ⟨a6, ⟨b1, b2, b3, b4⟩, a7⟩, a8⟩ := h
  have hr : ∀ w, ¬ w = 8 → rdM (wrM σ 8 3 (nQ 0)) w = rdM σ w := fun w hw => rdf_wr hw
  refine ⟨a1, a2, ⟨⟨a3.1.1, fun i => ?_⟩, fun w h1 h2 => ⟨(a3.2 w h1 h2).1, fun i => ?_⟩⟩, a4, rd_wr_s _ _ _ _, ⟨fun b hb h1 h2 => ?_, ⟨b1, b2, fun h1 h2 => ⟨(b3 h1 h2).1, fun i => ?_⟩, b4⟩, fun h1 h2 => ?_⟩, a8⟩
  · rw [hr 1 (by decide)]
    exact a3.1.2 i
  · rw [hr w (by omega)]
    exact (a3.2 w h1 h2).2 i
  · obtain ⟨z1, z2⟩ := a6 b hb h1 h2
    refine ⟨z1, fun e => Nw_gr (z2 e) (fun w q1 q2 => hr w ?_)⟩
    omega
  · rw [hr 181 (by decide)]
    exact (b3 h1 h2).2 i
  · obtain ⟨z1, z2, z3, z4, z5, z6⟩ := a7 h1 h2
    refine ⟨z1, z2, z3, z4, z5, ?_⟩
    rw [hr 182 (by decide)]
    exact z6
theorem c44_A (h : Bn L xs σ 9) : ∃ σ1, DoM 44 [.ref 8] σ = RuM 44 (15, [some (.ref 8), none], [], 17, 385) σ1 ∧ Bn L xs σ1 26 := by
  obtain ⟨σ1, x1, x2, x3, x4, x5⟩ := Bn_14 (v := 8) (j := 0) h (Or.inl rfl) (Or.inl ⟨rfl, Or.inl ⟨rfl, rfl, rfl⟩⟩)
  have e := tk_nw σ 1 2
  rw [h.1] at e
  refine ⟨_, ?_, x5⟩
  refine (g44_0).trans ?_
  simp only [h.1, e, x1, x2, cn_l, Option.toList, List.nil_append, List.cons_append, if_true, true_and, Nat.zero_le, show ¬ (8 : Nat) = 0 by decide, not_false_eq_true, g44_8, g44_12]
theorem c44_B (h : Bn L xs σ 26) : ∃ σ1, RuM 44 (15, [some (.ref 8), none], [], 17, 385) σ = RuM 44 (26, [some (.ref 8), none], [], 34, 770) σ1 ∧ Bn L xs σ1 43 := by
  obtain ⟨σ1, x1, x2, x3, x4, x5⟩ := Bn_14 (v := 8) (j := 1) h (Or.inr (Or.inl rfl)) (Or.inl ⟨rfl, Or.inr (Or.inl ⟨rfl, rfl, rfl⟩)⟩)
  have e := tk_nw σ 1 2
  rw [h.1] at e
  refine ⟨_, ?_, x5⟩
  rw [g44_15]
  simp only [h.1, e, x1, x2, cn_l, Option.toList, List.nil_append, List.cons_append, if_true, g44_19, g44_23]
theorem c44_C (h : Bn L xs σ 43) : ∃ σ1, RuM 44 (26, [some (.ref 8), none], [], 34, 770) σ = RuM 44 (37, [some (.ref 8), some (.int (nQ 0))], [], 35, 776) σ1 ∧ Bn L xs σ1 44 := by
  refine ⟨_, ?_, Bn_nw h (Or.inl rfl) (j := 2) (Or.inl ⟨rfl, Or.inr (Or.inr (Or.inl ⟨rfl, rfl, rfl⟩))⟩) (k := 6) (l := 6) (fun _ => rfl) (fun z => absurd z (by decide)) (fun z => absurd z (by decide)) (fun z => absurd z (by decide))⟩
  have e : tkM (nwM σ 6 6) 8 = (1, 4) := ((Gr_nw h.1 6 6) 8 (by decide)).1.trans h.2.2.2.1
  rw [g44_26]
  simp only [h.1, e, if_true, g44_32, g44_35]
theorem c44_D : ∀ (m i : Nat) (σ : Mem), i + m = 6 → Bn L xs σ (44 + 17 * i) → ∃ σ1, RuM 44 (37, [some (.ref 8), some (.int (nQ i))], [], 35 + 17 * i, 776 + 385 * i) σ = RuM 44 (37, [some (.ref 8), some (.int (nQ 6))], [], 137, 3086) σ1 ∧ Bn L xs σ1 146 := by
  intro m
  induction m with
  | zero =>
    intro i σ hi h
    obtain rfl : i = 6 := by omega
    exact ⟨σ, rfl, h⟩
  | succ m ih =>
    intro i σ hi h
    obtain ⟨σ1, x1, x2, x3, x4, x5⟩ := Bn_14 (v := 43) (j := i) h (Or.inr (Or.inr (Or.inl ⟨i, by omega, rfl⟩))) (Or.inr (Or.inl ⟨rfl, by omega, by omega, rfl⟩))
    have e := tk_nw σ 1 2
    rw [h.1] at e
    have hp : prM σ 8 2 = 43 := h.2.2.2.2.2.2 8 2 44 43 (Or.inl ⟨rfl, Or.inr (Or.inr (Or.inl ⟨rfl, rfl, rfl⟩))⟩) (by omega)
    have hk : tkM σ1 43 = (6, 6) := x3.trans (h.2.2.2.2.2.1.2.1.1 (by omega) (by omega))
    obtain ⟨σ2, y1, y2⟩ := ih (i + 1) _ (by omega) (show Bn L xs (wpM σ1 43 i (44 + 17 * i)) (44 + 17 * (i + 1)) from x5)
    refine ⟨σ2, ?_, y2⟩
    rw [← y1, g44_37, show 35 + 17 * (i + 1) = 35 + 17 * i + 1 + 16 by omega, show 776 + 385 * (i + 1) = 776 + 385 * i + 10 + 375 by omega]
    have k1 : 35 + 17 * i + 1 ≤ 177 ∧ 776 + 385 * i + 10 ≤ 4030 := by omega
    have k2 : (1 ≤ 4 ∧ [Value.ref (44 + 17 * i)].all isOne = true) ∧ 3 ≤ 8 ∧ 35 + 17 * i + 1 + 16 ≤ 177 ∧ 776 + 385 * i + 10 + 375 ≤ 4030 := ⟨⟨by decide, rfl⟩, by omega⟩
    simp (disch := omega) only [nQ_lt, show i < 6 by omega, if_true, h.2.2.2.1, h.1, hp, k1, k2, e, x1, x4, hk, cn_l, Option.toList, List.nil_append, List.cons_append, aOk, nQ_nat, nQ_neg, leF, or_false, false_or, not_false_eq_true, true_and, and_true, nQ_add, g44_51, g44_55, g44_56]
theorem c44_E (h : Bn L xs σ 146) : ∃ σ1, RuM 44 (37, [some (.ref 8), some (.int (nQ 6))], [], 137, 3086) σ = RuM 44 (77, [some (.ref 8), some (.int (nQ 0))], [], 138, 3088) σ1 ∧ Bn L xs σ1 147 := by
  have h' := Bn_wr h
  refine ⟨_, ?_, Bn_nw h' (Or.inr (Or.inl rfl)) (j := 4) (Or.inl ⟨rfl, Or.inr (Or.inr (Or.inr (Or.inl ⟨rfl, rfl, rfl⟩)))⟩) (k := 6) (l := 2) (fun z => absurd z (by decide)) (fun _ => rfl) (fun z => absurd z (by decide)) (fun z => absurd z (by decide))⟩
  have e : tkM (nwM (wrM σ 8 3 (nQ 0)) 6 2) 8 = (1, 4) := ((Gr_nw h'.1 6 2) 8 (by decide)).1.trans h.2.2.2.1
  rw [g44_37]
  simp (disch := omega) only [h'.1, e, if_true, if_false, nQ_lt, Nat.lt_irrefl, h.2.2.2.1, nQ_neg, nQ_nat, not_false_eq_true, true_and, and_true, Nat.reduceLeDiff, Nat.reduceAdd, g44_67, g44_72, g44_75]
theorem c44_F : ∀ (m i : Nat) (σ : Mem), i + m = 2 → Bn L xs σ (147 + 17 * i) → ∃ σ1, RuM 44 (77, [some (.ref 8), some (.int (nQ i))], [], 138 + 17 * i, 3088 + 385 * i) σ = RuM 44 (77, [some (.ref 8), some (.int (nQ 2))], [], 172, 3858) σ1 ∧ Bn L xs σ1 181 := by
  intro m
  induction m with
  | zero =>
    intro i σ hi h
    obtain rfl : i = 2 := by omega
    exact ⟨σ, rfl, h⟩
  | succ m ih =>
    intro i σ hi h
    obtain ⟨σ1, x1, x2, x3, x4, x5⟩ := Bn_14 (v := 146) (j := i) h (Or.inr (Or.inr (Or.inr ⟨i, by omega, rfl⟩))) (Or.inr (Or.inr ⟨rfl, by omega, by omega, rfl⟩))
    have e := tk_nw σ 1 2
    rw [h.1] at e
    have hp : prM σ 8 4 = 146 := h.2.2.2.2.2.2 8 4 147 146 (Or.inl ⟨rfl, Or.inr (Or.inr (Or.inr (Or.inl ⟨rfl, rfl, rfl⟩)))⟩) (by omega)
    have hk : tkM σ1 146 = (6, 2) := x3.trans (h.2.2.2.2.2.1.2.1.2.1 (by omega) (by omega))
    obtain ⟨σ2, y1, y2⟩ := ih (i + 1) _ (by omega) (show Bn L xs (wpM σ1 146 i (147 + 17 * i)) (147 + 17 * (i + 1)) from x5)
    refine ⟨σ2, ?_, y2⟩
    rw [← y1, g44_77, show 138 + 17 * (i + 1) = 138 + 17 * i + 1 + 16 by omega, show 3088 + 385 * (i + 1) = 3088 + 385 * i + 10 + 375 by omega]
    have k1 : 138 + 17 * i + 1 ≤ 177 ∧ 3088 + 385 * i + 10 ≤ 4030 := by omega
    have k2 : (1 ≤ 4 ∧ [Value.ref (147 + 17 * i)].all isOne = true) ∧ 3 ≤ 8 ∧ 138 + 17 * i + 1 + 16 ≤ 177 ∧ 3088 + 385 * i + 10 + 375 ≤ 4030 := ⟨⟨by decide, rfl⟩, by omega⟩
    simp (disch := omega) only [nQ_lt, show i < 2 by omega, if_true, h.2.2.2.1, h.1, hp, k1, k2, e, x1, x4, hk, cn_l, Option.toList, List.nil_append, List.cons_append, aOk, nQ_nat, nQ_neg, leF, or_false, false_or, not_false_eq_true, true_and, and_true, nQ_add, g44_90, g44_94, g44_95]
theorem c44_G (h : Bn L xs σ 181) : ∃ σ1, RuM 44 (77, [some (.ref 8), some (.int (nQ 2))], [], 172, 3858) σ = some (.inl none, σ1) ∧ Bn L xs σ1 186 := by
  have h2 := Bn_nw h (Or.inr (Or.inr (Or.inl rfl))) (j := 5) (Or.inl ⟨rfl, Or.inr (Or.inr (Or.inr (Or.inr (Or.inl ⟨rfl, rfl, rfl⟩))))⟩) (k := 3) (l := 2) (fun z => absurd z (by decide)) (fun z => absurd z (by decide)) (fun _ => rfl) (fun z => absurd z (by decide))
  have e1 : tkM (nwM σ 3 2) 8 = (1, 4) := ((Gr_nw h.1 3 2) 8 (by decide)).1.trans h.2.2.2.1
  rw [g44_77]
  simp (disch := omega) only [h.1, e1, if_true, if_false, nQ_lt, Nat.lt_irrefl, nQ_neg, nQ_nat, not_false_eq_true, true_and, and_true, Nat.reduceLeDiff, Nat.reduceAdd, g44_105, g44_108, h2.1]
  revert h2
  generalize wpM (nwM σ 3 2) 8 5 181 = τ
  intro h2
  have e := tk_nw τ 1 3
  rw [h2.1] at e
  obtain ⟨σ1, x1, x2, x3, x4⟩ := c36 (σ := nwM τ 1 3) (b := 182) (by decide) (by rw [nx_nw, h2.1]) e
  have hg := Gr_tr (Gr_nw h2.1 1 3) x4
  have h3 : Bn L xs (wpM σ1 8 6 182) 185 := by
    refine Bn_st h2 hg x3 (by decide) (Or.inl ⟨rfl, Or.inr (Or.inr (Or.inr (Or.inr (Or.inr (Or.inl ⟨rfl, rfl, rfl⟩)))))⟩) (fun v' j' t x' hP q1 q2 => ?_) ⟨fun b hb q1 q2 => ?_, ⟨fun q1 q2 => ?_, fun q1 q2 => ?_, fun q1 q2 => ?_, fun q1 q2 => ?_⟩, fun q1 q2 => x2⟩
    · clear h h2 hg x4 x3 x2 x1 e e1
      unfold PT at hP
      omega
    · exfalso
      rcases hb with rfl | rfl | ⟨i, hi, rfl⟩ | ⟨i, hi, rfl⟩ <;> omega
    all_goals exfalso; omega
  have e3 : tkM σ1 8 = (1, 4) := (hg 8 (by decide)).1.trans h2.2.2.2.1
  simp (disch := omega) only [e, x1, al1, e3, cn_l, Option.toList, List.nil_append, List.cons_append, if_true, true_and, and_true, Nat.reduceLeDiff, Nat.reduceAdd, nQ_neg, nQ_nat, not_false_eq_true, g44_112, g44_116, g44_119, h3.1]
  have h4 := Bn_nw h3 (Or.inr (Or.inr (Or.inr rfl))) (j := 7) (Or.inl ⟨rfl, Or.inr (Or.inr (Or.inr (Or.inr (Or.inr (Or.inr ⟨rfl, rfl, rfl⟩)))))⟩) (k := 2) (l := 60) (fun z => absurd z (by decide)) (fun z => absurd z (by decide)) (fun z => absurd z (by decide)) (fun _ => rfl)
  have e4 : tkM (nwM (wpM σ1 8 6 182) 2 60) 8 = (1, 4) := ((Gr_nw h3.1 2 60) 8 (by decide)).1.trans h3.2.2.2.1
  refine ⟨_, ?_, h4⟩
  simp (disch := omega) only [e4, if_true, Nat.reduceLeDiff, true_and, and_true, g44_124, g44_127]
theorem c44 (h : Bn L xs σ 9) : ∃ σ1, DoM 44 [.ref 8] σ = some (.inl none, σ1) ∧ Bn L xs σ1 186 := by
  obtain ⟨σ1, x1, y1⟩ := c44_A h
  obtain ⟨σ2, x2, y2⟩ := c44_B y1
  obtain ⟨σ3, x3, y3⟩ := c44_C y2
  obtain ⟨σ4, x4, y4⟩ := c44_D 6 0 σ3 rfl y3
  obtain ⟨σ5, x5, y5⟩ := c44_E y4
  obtain ⟨σ6, x6, y6⟩ := c44_F 2 0 σ5 rfl y5
  obtain ⟨σ7, x7, y7⟩ := c44_G y6
  exact ⟨σ7, x1.trans (x2.trans (x3.trans (x4.trans (x5.trans (x6.trans x7))))), y7⟩
end Na
