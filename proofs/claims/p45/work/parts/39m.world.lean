/-! Copies of states. -/
def rw_ (τ : Mem) (a : Nat) : Nat → Nat → Int32 := fun u i => rdM τ (a + u) i
theorem sB_rw (n : Nat) (τ : Mem) (b : Nat) : sB n τ b (rw_ τ b) = τ := by
  show (τ.1, τ.2.1, (fun a i => if b ≤ a ∧ a < b + n then τ.2.2.1 (b + (a - b)) i else τ.2.2.1 a i), τ.2.2.2) = τ
  have e : (fun a i => if b ≤ a ∧ a < b + n then τ.2.2.1 (b + (a - b)) i else τ.2.2.1 a i) = τ.2.2.1 := by
    funext a i
    split
    · next c => rw [show b + (a - b) = a by omega]
    · rfl
  rw [e]
theorem rd_out {n : Nat} {σ : Mem} {b v : Nat} {d : Nat → Nat → Int32} (h : ¬ (b ≤ v ∧ v < b + n)) (j : Nat) : rdM (sB n σ b d) v j = rdM σ v j := if_neg h
theorem wr_out {n : Nat} {σ : Mem} {b v : Nat} {d : Nat → Nat → Int32} (h : ¬ (b ≤ v ∧ v < b + n)) (j : Nat) (x : Int32) : wrM (sB n σ b d) v j x = sB n (wrM σ v j x) b d := by
  show (σ.1, σ.2.1, _, σ.2.2.2) = (σ.1, σ.2.1, _, σ.2.2.2)
  congr 3
  funext a i
  show (if a = v ∧ i = j then x else if b ≤ a ∧ a < b + n then d (a - b) i else σ.2.2.1 a i) = if b ≤ a ∧ a < b + n then d (a - b) i else if a = v ∧ i = j then x else σ.2.2.1 a i
  by_cases h1 : a = v ∧ i = j
  · rw [if_pos h1, if_neg (by rw [h1.1]; exact h), if_pos h1]
  · rw [if_neg h1, if_neg h1]
def cpR (g h : Nat → Int32) (n : Nat) : Nat → Int32 := fun i => if i < n then h i else g i
theorem cp_sB {N : Nat} {σ : Mem} {b u sv n : Nat} {d : Nat → Nat → Int32} (h : u < N) (hs : ¬ (b ≤ sv ∧ sv < b + N)) : cpM (sB N σ b d) sv 0 (b + u) 0 n = sB N σ b (rX d u (cpR (d u) (rdM σ sv) n)) := by
  show (σ.1, σ.2.1, _, σ.2.2.2) = (σ.1, σ.2.1, _, σ.2.2.2)
  congr 3
  funext a i
  show (if a = b + u ∧ (0 ≤ i ∧ i < 0 + n) then (if b ≤ sv ∧ sv < b + N then d (sv - b) (0 + (i - 0)) else σ.2.2.1 sv (0 + (i - 0))) else if b ≤ a ∧ a < b + N then d (a - b) i else σ.2.2.1 a i) = if b ≤ a ∧ a < b + N then (if a - b = u then (fun i => if i < n then σ.2.2.1 sv i else d u i) else d (a - b)) i else σ.2.2.1 a i
  rw [if_neg hs, Nat.sub_zero, Nat.zero_add, Nat.zero_add]
  by_cases h1 : b ≤ a ∧ a < b + N
  · rw [if_pos h1, if_pos h1]
    by_cases h2 : a = b + u
    · rw [if_pos (by omega : a - b = u)]
      by_cases h3 : i < n
      · rw [if_pos ⟨h2, by omega, h3⟩]; exact (if_pos h3).symm
      · rw [if_neg (fun z => h3 z.2.2), show a - b = u by omega]; exact (if_neg h3).symm
    · rw [if_neg (fun z => h2 z.1), if_neg (by omega : ¬ a - b = u)]
  · rw [if_neg h1, if_neg h1, if_neg (fun h2 => h1 (by omega))]
theorem nQ0c : (nQ 0).toNatClampNeg = 0 := by decide
def EqS (d d' : Nat → Nat → Int32) : Prop := (d' 0 0 = d 0 0 ∧ d' 8 0 = d 8 0 ∧ d' 13 0 = d 13 0 ∧ d' 13 1 = d 13 1) ∧ (∀ r, r < 2 → d' 1 r = d 1 r) ∧ (∀ u, u < 6 → d' 2 u = d 2 u) ∧ (∀ k, k < 18 → d' 3 k = d 3 k ∧ d' 4 k = d 4 k ∧ d' 5 k = d 5 k ∧ d' 6 k = d 6 k) ∧ (∀ a, a < 9 → d' 7 a = d 7 a) ∧ (∀ i, i < 60 → d' 9 i = d 9 i ∧ d' 10 i = d 10 i ∧ d' 11 i = d 11 i ∧ d' 12 i = d 12 i) ∧ ∀ i, i < 12 → d' 14 i = d 14 i ∧ d' 15 i = d 15 i ∧ d' 16 i = d 16 i
def RlS (d : Nat → Nat → Int32) (f : Nat → Int32) : Prop := ∃ n, RlC d f (fun k => usF f (nQ (k / 2)) (k - k / 2 * 2) n) ∧ FlR d f n ∧ InvF f n
theorem RS_eq {d d' : Nat → Nat → Int32} {f : Nat → Int32} (h : RlS d f) (e : EqS d d') : RlS d' f := by
  obtain ⟨n, ⟨⟨a1, a2, a3⟩, a4, a5, q, x, hq, hx, a6, a7, a8, a9⟩, ⟨b1, b2, b3, b4⟩, hI⟩ := h
  obtain ⟨⟨e1, e2, e3, e4⟩, e5, e6, e7, e8, e9, e10⟩ := e
  refine ⟨n, ⟨⟨by rw [e1, a1], fun r hr => by rw [e5 r hr, a2 r hr], fun u hu => by rw [e6 u hu, a3 u hu]⟩, fun k hk => ?_, fun a ha => by rw [e8 a ha, a5 a ha], q, x, hq, hx, by rw [e3, a6], by rw [e4, a7], a8, fun i hi => ?_⟩, ⟨by rw [e2, b1], b2, b3, ?_⟩, hI⟩
  · obtain ⟨c1, c2, c3, c4⟩ := e7 k hk
    rw [c1, c2, c3, c4]
    exact a4 k hk
  · obtain ⟨c1, c2, c3⟩ := e10 ((q + i) % 12) (by omega)
    rw [c1, c2, c3]
    exact a9 i hi
  · rw [show Lq (qC d') n = Lq (qC d) n from Lq_congr (fun i hi => by
      obtain ⟨c1, c2, c3, c4⟩ := e9 i (by omega)
      unfold qC
      rw [c1, c2, c3, c4])]
    exact b4
theorem RS_f {d : Nat → Nat → Int32} {f f' : Nat → Int32} (h : RlS d f) (e : ∀ i, i < 357 → f' i = f i) : RlS d f' := by
  obtain ⟨n, hR, hF, hI⟩ := h
  refine ⟨n, Rl_U (Rl_f2 hR (fun _ _ => rfl) (fun i hi => e i (by omega))) (fun k hk => ?_), Fl_cg hF (fun _ _ _ => rfl) (fun i h1 h2 => e i (by omega)), IA_cg hF.2.2.1 hI.1 (fun i h1 h2 => e i (by omega)), IB_cg hF.2.2.1 hI.2 (fun i h1 h2 => e i (by omega))⟩
  · exact us_c2 hF.2.2.1 _ _ (fun i h1 h2 => e i (by omega))
theorem EqS_s {d d' d'' : Nat → Nat → Int32} (h : EqS d d') (e : ∀ u, u < 17 → d'' u = d u) : EqS d'' d' := by
  unfold EqS
  rw [e 0 (by decide), e 1 (by decide), e 2 (by decide), e 3 (by decide), e 4 (by decide), e 5 (by decide), e 6 (by decide), e 7 (by decide), e 8 (by decide), e 9 (by decide), e 10 (by decide), e 11 (by decide), e 12 (by decide), e 13 (by decide), e 14 (by decide), e 15 (by decide), e 16 (by decide)]
  exact h
theorem EqS_d {d d' d'' : Nat → Nat → Int32} (h : EqS d d') (e : ∀ u, u < 17 → d'' u = d' u) : EqS d d'' := by
  unfold EqS
  rw [e 0 (by decide), e 1 (by decide), e 2 (by decide), e 3 (by decide), e 4 (by decide), e 5 (by decide), e 6 (by decide), e 7 (by decide), e 8 (by decide), e 9 (by decide), e 10 (by decide), e 11 (by decide), e 12 (by decide), e 13 (by decide), e 14 (by decide), e 15 (by decide), e 16 (by decide)]
  exact h
section Cy
variable {σ : Mem} {a b : Nat} {d : Nat → Nat → Int32}
theorem c1 (h : ShS σ b) (ha : ShS σ a) (hab : a + 17 ≤ b ∨ b + 17 ≤ a) : DoM 1 [.ref (b + 13), .ref (a + 13)] (sB 17 σ b d) = some (.inl none, sB 17 σ b (rX (rX (rX (rX d 13 (up (up (d 13) 0 (rdM σ (a + 13) 0)) 1 (rdM σ (a + 13) 1))) 14 (cpR (d 14) (rdM σ (a + 14)) 12)) 15 (cpR (d 15) (rdM σ (a + 15)) 12)) 16 (cpR (d 16) (rdM σ (a + 16)) 12))) := by
  refine (g1_0).trans ?_
  simp (disch := omega) only [aOk, eq_self, tk_sB, pr_sB, tk_wr, pr_wr, nQ_nat, nQ_neg, nQ_add, nQ_mul, nQ_lt, leF, ltT, ltF, rd_sB, rd_sB0, wr_sB, wr_sB0, cn_l, cn_r, Option.toList, List.cons_append, List.nil_append, if_true, if_false, true_and, and_true, or_false, false_or, true_or, or_true, not_false_eq_true, not_true_eq_false, and_false, false_and, zb_0, zb_1, q10, h.2.1.1, h.2.1.2.1, h.2.1.2.2, h.2.2.1.1, h.2.2.1.2.1, h.2.2.1.2.2.1, h.2.2.1.2.2.2.1, h.2.2.1.2.2.2.2.1, h.2.2.1.2.2.2.2.2.1, h.2.2.1.2.2.2.2.2.2.1, h.2.2.1.2.2.2.2.2.2.2.1, h.2.2.1.2.2.2.2.2.2.2.2, h.2.2.2.1.1, h.2.2.2.1.2.1, h.2.2.2.1.2.2.1, h.2.2.2.1.2.2.2, h.2.2.2.2.1.1, h.2.2.2.2.1.2.1, h.2.2.2.2.1.2.2, h.2.2.2.2.2.1.1, h.2.2.2.2.2.1.2.1, h.2.2.2.2.2.1.2.2.1, h.2.2.2.2.2.1.2.2.2.1, h.2.2.2.2.2.1.2.2.2.2.1, h.2.2.2.2.2.1.2.2.2.2.2.1, h.2.2.2.2.2.1.2.2.2.2.2.2, h.2.2.2.2.2.2.1.1, h.2.2.2.2.2.2.1.2.1, h.2.2.2.2.2.2.1.2.2.1, h.2.2.2.2.2.2.1.2.2.2, h.2.2.2.2.2.2.2.1, h.2.2.2.2.2.2.2.2.1, h.2.2.2.2.2.2.2.2.2, le8 h.1, ha.2.1.1, ha.2.1.2.1, ha.2.1.2.2, ha.2.2.1.1, ha.2.2.1.2.1, ha.2.2.1.2.2.1, ha.2.2.1.2.2.2.1, ha.2.2.1.2.2.2.2.1, ha.2.2.1.2.2.2.2.2.1, ha.2.2.1.2.2.2.2.2.2.1, ha.2.2.1.2.2.2.2.2.2.2.1, ha.2.2.1.2.2.2.2.2.2.2.2, ha.2.2.2.1.1, ha.2.2.2.1.2.1, ha.2.2.2.1.2.2.1, ha.2.2.2.1.2.2.2, ha.2.2.2.2.1.1, ha.2.2.2.2.1.2.1, ha.2.2.2.2.1.2.2, ha.2.2.2.2.2.1.1, ha.2.2.2.2.2.1.2.1, ha.2.2.2.2.2.1.2.2.1, ha.2.2.2.2.2.1.2.2.2.1, ha.2.2.2.2.2.1.2.2.2.2.1, ha.2.2.2.2.2.1.2.2.2.2.2.1, ha.2.2.2.2.2.1.2.2.2.2.2.2, ha.2.2.2.2.2.2.1.1, ha.2.2.2.2.2.2.1.2.1, ha.2.2.2.2.2.2.1.2.2.1, ha.2.2.2.2.2.2.1.2.2.2, ha.2.2.2.2.2.2.2.1, ha.2.2.2.2.2.2.2.2.1, ha.2.2.2.2.2.2.2.2.2, le8 ha.1, rd_out, nQ0c, cp_sB, rX_s, rX_r, rX_n, Nat.zero_add, Nat.le_refl, Nat.zero_le, g1_8, g1_16, g1_31, g1_46, g1_61]
theorem c5 (h : ShS σ b) (ha : ShS σ a) (hab : a + 17 ≤ b ∨ b + 17 ≤ a) : DoM 5 [.ref (b + 8), .ref (a + 8)] (sB 17 σ b d) = some (.inl none, sB 17 σ b (rX (rX (rX (rX (rX d 8 (up (d 8) 0 (rdM σ (a + 8) 0))) 9 (cpR (d 9) (rdM σ (a + 9)) 60)) 10 (cpR (d 10) (rdM σ (a + 10)) 60)) 11 (cpR (d 11) (rdM σ (a + 11)) 60)) 12 (cpR (d 12) (rdM σ (a + 12)) 60))) := by
  refine (g5_0).trans ?_
  simp (disch := omega) only [aOk, eq_self, tk_sB, pr_sB, tk_wr, pr_wr, nQ_nat, nQ_neg, nQ_add, nQ_mul, nQ_lt, leF, ltT, ltF, rd_sB, rd_sB0, wr_sB, wr_sB0, cn_l, cn_r, Option.toList, List.cons_append, List.nil_append, if_true, if_false, true_and, and_true, or_false, false_or, true_or, or_true, not_false_eq_true, not_true_eq_false, and_false, false_and, zb_0, zb_1, q10, h.2.1.1, h.2.1.2.1, h.2.1.2.2, h.2.2.1.1, h.2.2.1.2.1, h.2.2.1.2.2.1, h.2.2.1.2.2.2.1, h.2.2.1.2.2.2.2.1, h.2.2.1.2.2.2.2.2.1, h.2.2.1.2.2.2.2.2.2.1, h.2.2.1.2.2.2.2.2.2.2.1, h.2.2.1.2.2.2.2.2.2.2.2, h.2.2.2.1.1, h.2.2.2.1.2.1, h.2.2.2.1.2.2.1, h.2.2.2.1.2.2.2, h.2.2.2.2.1.1, h.2.2.2.2.1.2.1, h.2.2.2.2.1.2.2, h.2.2.2.2.2.1.1, h.2.2.2.2.2.1.2.1, h.2.2.2.2.2.1.2.2.1, h.2.2.2.2.2.1.2.2.2.1, h.2.2.2.2.2.1.2.2.2.2.1, h.2.2.2.2.2.1.2.2.2.2.2.1, h.2.2.2.2.2.1.2.2.2.2.2.2, h.2.2.2.2.2.2.1.1, h.2.2.2.2.2.2.1.2.1, h.2.2.2.2.2.2.1.2.2.1, h.2.2.2.2.2.2.1.2.2.2, h.2.2.2.2.2.2.2.1, h.2.2.2.2.2.2.2.2.1, h.2.2.2.2.2.2.2.2.2, le8 h.1, ha.2.1.1, ha.2.1.2.1, ha.2.1.2.2, ha.2.2.1.1, ha.2.2.1.2.1, ha.2.2.1.2.2.1, ha.2.2.1.2.2.2.1, ha.2.2.1.2.2.2.2.1, ha.2.2.1.2.2.2.2.2.1, ha.2.2.1.2.2.2.2.2.2.1, ha.2.2.1.2.2.2.2.2.2.2.1, ha.2.2.1.2.2.2.2.2.2.2.2, ha.2.2.2.1.1, ha.2.2.2.1.2.1, ha.2.2.2.1.2.2.1, ha.2.2.2.1.2.2.2, ha.2.2.2.2.1.1, ha.2.2.2.2.1.2.1, ha.2.2.2.2.1.2.2, ha.2.2.2.2.2.1.1, ha.2.2.2.2.2.1.2.1, ha.2.2.2.2.2.1.2.2.1, ha.2.2.2.2.2.1.2.2.2.1, ha.2.2.2.2.2.1.2.2.2.2.1, ha.2.2.2.2.2.1.2.2.2.2.2.1, ha.2.2.2.2.2.1.2.2.2.2.2.2, ha.2.2.2.2.2.2.1.1, ha.2.2.2.2.2.2.1.2.1, ha.2.2.2.2.2.2.1.2.2.1, ha.2.2.2.2.2.2.1.2.2.2, ha.2.2.2.2.2.2.2.1, ha.2.2.2.2.2.2.2.2.1, ha.2.2.2.2.2.2.2.2.2, le8 ha.1, rd_out, nQ0c, cp_sB, rX_s, rX_r, rX_n, Nat.zero_add, Nat.le_refl, Nat.zero_le, g5_8, g5_23, g5_38, g5_53, g5_68]
theorem cpR_i {g h : Nat → Int32} {n i : Nat} (hi : i < n) : cpR g h n i = h i := if_pos hi
theorem cpR_0 (g h : Nat → Int32) : cpR g h 0 = g := funext fun i => if_neg (Nat.not_lt_zero i)
theorem cpR_s (g h : Nat → Int32) (i : Nat) : up (cpR g h i) i (h i) = cpR g h (i + 1) := by
  funext k
  unfold up cpR
  by_cases h1 : k = i
  · rw [if_pos h1, if_pos (by omega), h1]
  · rw [if_neg h1]
    by_cases h2 : k < i
    · rw [if_pos h2, if_pos (by omega)]
    · rw [if_neg h2, if_neg (by omega)]
theorem c15 (h : ShS σ b) (ha : ShS σ a) (hab : a + 17 ≤ b ∨ b + 17 ≤ a) (hx : ∀ u, u < 6 → rdM σ (a + 2) u = nQ 0 ∨ rdM σ (a + 2) u = nQ 1) : ∃ d', DoM 15 [.ref b, .ref a] (sB 17 σ b d) = some (.inl none, sB 17 σ b d') ∧ EqS (rw_ σ a) d' := by
  have hx' : ∀ u, u < 6 → rdM σ (a + 2) u &&& nQ 1 = rdM σ (a + 2) u := fun u hu => by
    rcases hx u hu with e | e <;> rw [e] <;> decide
  have L : ∀ (m i : Nat) (D : Nat → Nat → Int32), i + m = 6 → RuM 15 (24, [some (.ref b), some (.ref a), some (.int (nQ i))], [], 0, 0) (sB 17 σ b (rX D 2 (cpR (D 2) (rdM σ (a + 2)) i))) = RuM 15 (24, [some (.ref b), some (.ref a), some (.int (nQ 6))], [], 0, 0) (sB 17 σ b (rX D 2 (cpR (D 2) (rdM σ (a + 2)) 6))) := by
    intro m
    induction m with
    | zero =>
      intro i D e
      obtain rfl : i = 6 := e
      rfl
    | succ m ih =>
      intro i D e
      have hi : i < 6 := by omega
      rw [← ih (i + 1) D (by omega), g15_24]
      simp (disch := omega) only [aOk, eq_self, tk_sB, pr_sB, tk_wr, pr_wr, nQ_nat, nQ_neg, nQ_add, nQ_mul, nQ_lt, leF, ltT, ltF, rd_sB, rd_sB0, wr_sB, wr_sB0, cn_l, cn_r, Option.toList, List.cons_append, List.nil_append, if_true, if_false, true_and, and_true, or_false, false_or, true_or, or_true, not_false_eq_true, not_true_eq_false, and_false, false_and, zb_0, zb_1, q10, h.2.1.1, h.2.1.2.1, h.2.1.2.2, h.2.2.1.1, h.2.2.1.2.1, h.2.2.1.2.2.1, h.2.2.1.2.2.2.1, h.2.2.1.2.2.2.2.1, h.2.2.1.2.2.2.2.2.1, h.2.2.1.2.2.2.2.2.2.1, h.2.2.1.2.2.2.2.2.2.2.1, h.2.2.1.2.2.2.2.2.2.2.2, h.2.2.2.1.1, h.2.2.2.1.2.1, h.2.2.2.1.2.2.1, h.2.2.2.1.2.2.2, h.2.2.2.2.1.1, h.2.2.2.2.1.2.1, h.2.2.2.2.1.2.2, h.2.2.2.2.2.1.1, h.2.2.2.2.2.1.2.1, h.2.2.2.2.2.1.2.2.1, h.2.2.2.2.2.1.2.2.2.1, h.2.2.2.2.2.1.2.2.2.2.1, h.2.2.2.2.2.1.2.2.2.2.2.1, h.2.2.2.2.2.1.2.2.2.2.2.2, h.2.2.2.2.2.2.1.1, h.2.2.2.2.2.2.1.2.1, h.2.2.2.2.2.2.1.2.2.1, h.2.2.2.2.2.2.1.2.2.2, h.2.2.2.2.2.2.2.1, h.2.2.2.2.2.2.2.2.1, h.2.2.2.2.2.2.2.2.2, le8 h.1, ha.2.1.1, ha.2.1.2.1, ha.2.1.2.2, ha.2.2.1.1, ha.2.2.1.2.1, ha.2.2.1.2.2.1, ha.2.2.1.2.2.2.1, ha.2.2.1.2.2.2.2.1, ha.2.2.1.2.2.2.2.2.1, ha.2.2.1.2.2.2.2.2.2.1, ha.2.2.1.2.2.2.2.2.2.2.1, ha.2.2.1.2.2.2.2.2.2.2.2, ha.2.2.2.1.1, ha.2.2.2.1.2.1, ha.2.2.2.1.2.2.1, ha.2.2.2.1.2.2.2, ha.2.2.2.2.1.1, ha.2.2.2.2.1.2.1, ha.2.2.2.2.1.2.2, ha.2.2.2.2.2.1.1, ha.2.2.2.2.2.1.2.1, ha.2.2.2.2.2.1.2.2.1, ha.2.2.2.2.2.1.2.2.2.1, ha.2.2.2.2.2.1.2.2.2.2.1, ha.2.2.2.2.2.1.2.2.2.2.2.1, ha.2.2.2.2.2.1.2.2.2.2.2.2, ha.2.2.2.2.2.2.1.1, ha.2.2.2.2.2.2.1.2.1, ha.2.2.2.2.2.2.1.2.2.1, ha.2.2.2.2.2.2.1.2.2.2, ha.2.2.2.2.2.2.2.1, ha.2.2.2.2.2.2.2.2.1, ha.2.2.2.2.2.2.2.2.2, le8 ha.1, rd_out, hi, hx', rX_s, rX_r, cpR_s, g15_42]
  have L0 := L 6 0 (rX (rX d 0 (up (d 0) 0 (rdM σ a 0))) 1 (cpR (d 1) (rdM σ (a + 1)) 2)) rfl
  rw [cpR_0, rX_i] at L0
  have X : DoM 15 [.ref b, .ref a] (sB 17 σ b d) = RuM 15 (24, [some (.ref b), some (.ref a), some (.int (nQ 0))], [], 0, 0) (sB 17 σ b (rX (rX d 0 (up (d 0) 0 (rdM σ a 0))) 1 (cpR (d 1) (rdM σ (a + 1)) 2))) := by
    refine (g15_0).trans ?_
    simp (disch := omega) only [aOk, eq_self, tk_sB, pr_sB, tk_wr, pr_wr, nQ_nat, nQ_neg, nQ_add, nQ_mul, nQ_lt, leF, ltT, ltF, rd_sB, rd_sB0, wr_sB, wr_sB0, cn_l, cn_r, Option.toList, List.cons_append, List.nil_append, if_true, if_false, true_and, and_true, or_false, false_or, true_or, or_true, not_false_eq_true, not_true_eq_false, and_false, false_and, zb_0, zb_1, q10, h.2.1.1, h.2.1.2.1, h.2.1.2.2, h.2.2.1.1, h.2.2.1.2.1, h.2.2.1.2.2.1, h.2.2.1.2.2.2.1, h.2.2.1.2.2.2.2.1, h.2.2.1.2.2.2.2.2.1, h.2.2.1.2.2.2.2.2.2.1, h.2.2.1.2.2.2.2.2.2.2.1, h.2.2.1.2.2.2.2.2.2.2.2, h.2.2.2.1.1, h.2.2.2.1.2.1, h.2.2.2.1.2.2.1, h.2.2.2.1.2.2.2, h.2.2.2.2.1.1, h.2.2.2.2.1.2.1, h.2.2.2.2.1.2.2, h.2.2.2.2.2.1.1, h.2.2.2.2.2.1.2.1, h.2.2.2.2.2.1.2.2.1, h.2.2.2.2.2.1.2.2.2.1, h.2.2.2.2.2.1.2.2.2.2.1, h.2.2.2.2.2.1.2.2.2.2.2.1, h.2.2.2.2.2.1.2.2.2.2.2.2, h.2.2.2.2.2.2.1.1, h.2.2.2.2.2.2.1.2.1, h.2.2.2.2.2.2.1.2.2.1, h.2.2.2.2.2.2.1.2.2.2, h.2.2.2.2.2.2.2.1, h.2.2.2.2.2.2.2.2.1, h.2.2.2.2.2.2.2.2.2, le8 h.1, ha.2.1.1, ha.2.1.2.1, ha.2.1.2.2, ha.2.2.1.1, ha.2.2.1.2.1, ha.2.2.1.2.2.1, ha.2.2.1.2.2.2.1, ha.2.2.1.2.2.2.2.1, ha.2.2.1.2.2.2.2.2.1, ha.2.2.1.2.2.2.2.2.2.1, ha.2.2.1.2.2.2.2.2.2.2.1, ha.2.2.1.2.2.2.2.2.2.2.2, ha.2.2.2.1.1, ha.2.2.2.1.2.1, ha.2.2.2.1.2.2.1, ha.2.2.2.1.2.2.2, ha.2.2.2.2.1.1, ha.2.2.2.2.1.2.1, ha.2.2.2.2.1.2.2, ha.2.2.2.2.2.1.1, ha.2.2.2.2.2.1.2.1, ha.2.2.2.2.2.1.2.2.1, ha.2.2.2.2.2.1.2.2.2.1, ha.2.2.2.2.2.1.2.2.2.2.1, ha.2.2.2.2.2.1.2.2.2.2.2.1, ha.2.2.2.2.2.1.2.2.2.2.2.2, ha.2.2.2.2.2.2.1.1, ha.2.2.2.2.2.2.1.2.1, ha.2.2.2.2.2.2.1.2.2.1, ha.2.2.2.2.2.2.1.2.2.2, ha.2.2.2.2.2.2.2.1, ha.2.2.2.2.2.2.2.2.1, ha.2.2.2.2.2.2.2.2.2, le8 ha.1, rd_out, nQ0c, cp_sB, rX_n, Nat.zero_add, Nat.le_refl, Nat.zero_le, g15_8, g15_22]
  rw [X, L0, g15_24]
  simp (disch := omega) only [aOk, eq_self, tk_sB, pr_sB, tk_wr, pr_wr, nQ_nat, nQ_neg, nQ_add, nQ_mul, nQ_lt, leF, ltT, ltF, rd_sB, rd_sB0, wr_sB, wr_sB0, cn_l, cn_r, Option.toList, List.cons_append, List.nil_append, if_true, if_false, true_and, and_true, or_false, false_or, true_or, or_true, not_false_eq_true, not_true_eq_false, and_false, false_and, zb_0, zb_1, q10, h.2.1.1, h.2.1.2.1, h.2.1.2.2, h.2.2.1.1, h.2.2.1.2.1, h.2.2.1.2.2.1, h.2.2.1.2.2.2.1, h.2.2.1.2.2.2.2.1, h.2.2.1.2.2.2.2.2.1, h.2.2.1.2.2.2.2.2.2.1, h.2.2.1.2.2.2.2.2.2.2.1, h.2.2.1.2.2.2.2.2.2.2.2, h.2.2.2.1.1, h.2.2.2.1.2.1, h.2.2.2.1.2.2.1, h.2.2.2.1.2.2.2, h.2.2.2.2.1.1, h.2.2.2.2.1.2.1, h.2.2.2.2.1.2.2, h.2.2.2.2.2.1.1, h.2.2.2.2.2.1.2.1, h.2.2.2.2.2.1.2.2.1, h.2.2.2.2.2.1.2.2.2.1, h.2.2.2.2.2.1.2.2.2.2.1, h.2.2.2.2.2.1.2.2.2.2.2.1, h.2.2.2.2.2.1.2.2.2.2.2.2, h.2.2.2.2.2.2.1.1, h.2.2.2.2.2.2.1.2.1, h.2.2.2.2.2.2.1.2.2.1, h.2.2.2.2.2.2.1.2.2.2, h.2.2.2.2.2.2.2.1, h.2.2.2.2.2.2.2.2.1, h.2.2.2.2.2.2.2.2.2, le8 h.1, ha.2.1.1, ha.2.1.2.1, ha.2.1.2.2, ha.2.2.1.1, ha.2.2.1.2.1, ha.2.2.1.2.2.1, ha.2.2.1.2.2.2.1, ha.2.2.1.2.2.2.2.1, ha.2.2.1.2.2.2.2.2.1, ha.2.2.1.2.2.2.2.2.2.1, ha.2.2.1.2.2.2.2.2.2.2.1, ha.2.2.1.2.2.2.2.2.2.2.2, ha.2.2.2.1.1, ha.2.2.2.1.2.1, ha.2.2.2.1.2.2.1, ha.2.2.2.1.2.2.2, ha.2.2.2.2.1.1, ha.2.2.2.2.1.2.1, ha.2.2.2.2.1.2.2, ha.2.2.2.2.2.1.1, ha.2.2.2.2.2.1.2.1, ha.2.2.2.2.2.1.2.2.1, ha.2.2.2.2.2.1.2.2.2.1, ha.2.2.2.2.2.1.2.2.2.2.1, ha.2.2.2.2.2.1.2.2.2.2.2.1, ha.2.2.2.2.2.1.2.2.2.2.2.2, ha.2.2.2.2.2.2.1.1, ha.2.2.2.2.2.2.1.2.1, ha.2.2.2.2.2.2.1.2.2.1, ha.2.2.2.2.2.2.1.2.2.2, ha.2.2.2.2.2.2.2.1, ha.2.2.2.2.2.2.2.2.1, ha.2.2.2.2.2.2.2.2.2, le8 ha.1, rd_out, nQ0c, cp_sB, rX_n, c5 h ha hab, c1 h ha hab, Nat.zero_add, Nat.le_refl, Nat.zero_le, g15_63, g15_78, g15_93, g15_108, g15_123, g15_134, g15_145]
  refine ⟨_, rfl, ⟨?_, ?_, ?_, ?_⟩, fun r hr => ?_, fun u hu => ?_, fun k hk => ⟨?_, ?_, ?_, ?_⟩, fun k hk => ?_, fun k hk => ⟨?_, ?_, ?_, ?_⟩, fun k hk => ⟨?_, ?_, ?_⟩⟩ <;> simp (disch := omega) only [rX_n, rX_s, up_s, up_n, cpR_i, rw_, Nat.add_zero]
end Cy
