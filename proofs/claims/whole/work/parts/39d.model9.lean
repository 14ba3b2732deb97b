/-! The model's queries about files and about what would happen. -/
def oV : Option Nat → Int32
  | none => -1
  | some j => nQ j
abbrev btP (f : Nat → Int32) (j i : Nat) : Prop := nQ 0 < f (5 + 4 * i + 3) - f (5 + 4 * j + 3) ∨ (f (5 + 4 * i + 3) - f (5 + 4 * j + 3) = nQ 0 ∧ f (5 + 4 * i) < f (5 + 4 * j))
abbrev chP (f : Nat → Int32) (a : Int32) (i : Nat) : Prop := f (5 + 4 * i + 1) = a ∨ nQ 6 + f (5 + 4 * i + 2) = a
def laO (f e : Nat → Int32) (a : Int32) : Nat → Option Nat
  | 0 => none
  | i + 1 => match laO f e a i with
    | none => if chP f a i ∧ e i = nQ 0 then some i else none
    | some j => if btP f j i ∧ chP f a i ∧ e i = nQ 0 then some i else some j
theorem la_s (f e : Nat → Int32) (a : Int32) (i : Nat) : laO f e a (i + 1) = match laO f e a i with
    | none => if chP f a i ∧ e i = nQ 0 then some i else none
    | some j => if btP f j i ∧ chP f a i ∧ e i = nQ 0 then some i else some j := rfl
theorem la_lt (f e : Nat → Int32) (a : Int32) : ∀ n j, laO f e a n = some j → j < n
  | 0, j, h => by cases h
  | n + 1, j, h => by
    unfold laO at h
    split at h
    · split at h
      · have := Option.some.inj h; omega
      · cases h
    · next j' hj =>
      have := la_lt f e a n j' hj
      split at h <;> have := Option.some.inj h <;> omega
section Ml
variable {σ : Mem} {b : Nat} {d : Nat → Nat → Int32}
theorem m165 (h : ShM σ b) {n : Nat} (hn : d 1 4 = nQ n) (h60 : n ≤ 60) (a : Int32) : DoM 165 [.ref b, .int a] (sB 7 σ b d) = some (.inl (some (.int (oV (laO (d 1) (d 6) a n)))), sB 7 σ b d) := by
  obtain ⟨h8, h0, ⟨p1, p2, p3, p4, p5, p6⟩, t1, t2, t3, t4, t5, t6⟩ := id h
  have L : ∀ (m i : Nat) (o4 o5 : Option Value), i + m = n → RuM 165 (4, [some (.ref b), some (.int a), some (.int (oV (laO (d 1) (d 6) a i))), some (.int (nQ i)), o4, o5], [], 0, 0) (sB 7 σ b d) = some (.inl (some (.int (oV (laO (d 1) (d 6) a n)))), sB 7 σ b d) := by
    intro m
    induction m with
    | zero =>
      intro i o4 o5 e
      obtain rfl : i = n := e
      rw [g165_4]
      simp (disch := omega) only [aOk, eq_self, tk_sB, pr_sB, tk_wr, pr_wr, nQ_nat, nQ_neg, nQ_add, nQ_mul, nQ_lt, leF, ltT, ltF, rd_sB, rd_sB0, wr_sB, wr_sB0, cn_l, cn_r, Option.toList, List.cons_append, List.nil_append, if_true, if_false, true_and, and_true, or_false, false_or, true_or, or_true, not_false_eq_true, not_true_eq_false, and_false, false_and, zb_0, zb_1, q10, h0, p1, t1, hn]
    | succ m ih =>
      intro i o4 o5 e
      have hi : i < 60 := by omega
      have ih' := fun x y => ih (i + 1) x y (by omega)
      rw [la_s] at ih'
      rw [g165_4]
      cases hl : laO (d 1) (d 6) a i with
      | none =>
        rw [hl] at ih'
        dsimp only [oV] at ih' ⊢
        rcases Classical.propComplete (chP (d 1) a i) with c1 | c1 <;> by_cases c2 : d 6 i = nQ 0 <;> simp (disch := omega) only [aOk, eq_self, tk_sB, pr_sB, tk_wr, pr_wr, nQ_nat, nQ_neg, nQ_add, nQ_mul, nQ_lt, leF, ltT, ltF, rd_sB, rd_sB0, wr_sB, wr_sB0, cn_l, cn_r, Option.toList, List.cons_append, List.nil_append, if_true, if_false, true_and, and_true, or_false, false_or, true_or, or_true, not_false_eq_true, not_true_eq_false, and_false, false_and, zb_0, zb_1, q10, h0, p1, p6, t1, t6, hn, c1, c2, oV, m115 h, if_z, g165_29, g165_35, g165_36, g165_54, g165_60, g165_63, g165_67, g165_68, g165_81, g165_97, g165_98] at ih' ⊢ <;> exact ih' _ _
      | some j =>
        have hj := la_lt _ _ _ _ _ hl
        rw [hl] at ih'
        dsimp only [oV] at ih' ⊢
        have ej := nQ_m1 (i := j) (by omega)
        rcases Classical.propComplete (chP (d 1) a i) with c1 | c1 <;> by_cases c2 : d 6 i = nQ 0 <;> by_cases c3 : nQ 0 < d 1 (5 + 4 * i + 3) - d 1 (5 + 4 * j + 3) <;> by_cases c4 : d 1 (5 + 4 * i + 3) - d 1 (5 + 4 * j + 3) = nQ 0 <;> by_cases c5 : d 1 (5 + 4 * i) < d 1 (5 + 4 * j) <;> simp (disch := omega) only [btP, aOk, eq_self, tk_sB, pr_sB, tk_wr, pr_wr, nQ_nat, nQ_neg, nQ_add, nQ_mul, nQ_lt, leF, ltT, ltF, rd_sB, rd_sB0, wr_sB, wr_sB0, cn_l, cn_r, Option.toList, List.cons_append, List.nil_append, if_true, if_false, true_and, and_true, or_false, false_or, true_or, or_true, not_false_eq_true, not_true_eq_false, and_false, false_and, zb_0, zb_1, q10, h0, p1, p6, t1, t6, hn, c1, c2, c3, c4, c5, oV, ej, m112 h, Nat.add_zero, m115 h, if_z, g165_29, g165_35, g165_36, g165_54, g165_60, g165_63, g165_67, g165_68, g165_81, g165_97, g165_98] at ih' ⊢ <;> exact ih' _ _
  exact (g165_0).trans (L n 0 none none (Nat.zero_add n))
theorem m166 (h : ShM σ b) : DoM 166 [.ref b] (sB 7 σ b d) = some (.inl none, sB 7 σ b (rX d 6 (fun i => if i < 60 then nQ 0 else d 6 i))) := by
  obtain ⟨h8, h0, ⟨p1, p2, p3, p4, p5, p6⟩, t1, t2, t3, t4, t5, t6⟩ := id h
  have e1 : nQ 0 &&& nQ 1 = nQ 0 := by decide
  have L : ∀ (m i : Nat), i + m = 60 → RuM 166 (2, [some (.ref b), some (.int (nQ i))], [], 0, 0) (sB 7 σ b (rX d 6 (fun k => if k < i then nQ 0 else d 6 k))) = some (.inl none, sB 7 σ b (rX d 6 (fun k => if k < 60 then nQ 0 else d 6 k))) := by
    intro m
    induction m with
    | zero =>
      intro i e
      obtain rfl : i = 60 := e
      rw [g166_2]
      simp (disch := omega) only [aOk, eq_self, tk_sB, pr_sB, tk_wr, pr_wr, nQ_nat, nQ_neg, nQ_add, nQ_mul, nQ_lt, leF, ltT, ltF, rd_sB, rd_sB0, wr_sB, wr_sB0, cn_l, cn_r, Option.toList, List.cons_append, List.nil_append, if_true, if_false, true_and, and_true, or_false, false_or, true_or, or_true, not_false_eq_true, not_true_eq_false, and_false, false_and, zb_0, zb_1, q10]
    | succ m ih =>
      intro i e
      have ih' := ih (i + 1) (by omega)
      have e2 : up (fun k => if k < i then nQ 0 else d 6 k) i (nQ 0) = fun k => if k < i + 1 then nQ 0 else d 6 k := by
        funext k
        unfold up
        by_cases h1 : k = i
        · rw [if_pos h1, if_pos (by omega)]
        · rw [if_neg h1]
          dsimp only
          by_cases h2 : k < i
          · rw [if_pos h2, if_pos (by omega)]
          · rw [if_neg h2, if_neg (by omega)]
      rw [g166_2]
      simp (disch := omega) only [aOk, eq_self, tk_sB, pr_sB, tk_wr, pr_wr, nQ_nat, nQ_neg, nQ_add, nQ_mul, nQ_lt, leF, ltT, ltF, rd_sB, rd_sB0, wr_sB, wr_sB0, cn_l, cn_r, Option.toList, List.cons_append, List.nil_append, if_true, if_false, true_and, and_true, or_false, false_or, true_or, or_true, not_false_eq_true, not_true_eq_false, and_false, false_and, zb_0, zb_1, q10, h0, p6, t6, rX_s, rX_r, e1, e2, g166_15]
      exact ih'
  have := L 60 0 rfl
  rw [show (fun k => if k < 0 then nQ 0 else d 6 k) = d 6 from funext fun k => if_neg (Nat.not_lt_zero k), rX_i] at this
  exact (g166_0).trans this
/-- how many more deletions -/
def fwN (f : Nat → Int32) (n : Nat) (a so : Int32) : Nat → (Nat → Int32) → Int32 → Option Nat
  | 0, _, _ => none
  | m + 1, e, us => if so = nQ 0 ∨ ¬ so < us then some 0 else match laO f e a n with
    | none => none
    | some j => (fwN f n a so m (up e j (nQ 1)) (us - f (5 + 4 * j + 3))).map (· + 1)
theorem m167 (h : ShM σ b) {n : Nat} (hn : d 1 4 = nQ n) (h60 : n ≤ 60) {a m k : Nat} (ha : a < 9) (hk : fwN (d 1) n (nQ a) (d 1 (245 + 2 * a)) m (fun i => if i < 60 then nQ 0 else d 6 i) (usF (d 1) (nQ a) 0 n) = some k) : ∃ e, DoM 167 [.ref b, .int (nQ a)] (sB 7 σ b d) = some (.inl (some (.int (nQ k))), sB 7 σ b (rX d 6 e)) := by
  obtain ⟨h8, h0, ⟨p1, p2, p3, p4, p5, p6⟩, t1, t2, t3, t4, t5, t6⟩ := id h
  have e1 : nQ 1 &&& nQ 1 = nQ 1 := by decide
  have L : ∀ (m k i : Nat) (e : Nat → Int32) (us : Int32) (o5 : Option Value), fwN (d 1) n (nQ a) (d 1 (245 + 2 * a)) m e us = some k → ∃ e', RuM 167 (27, [some (.ref b), some (.int (nQ a)), some (.int (d 1 (245 + 2 * a))), some (.int us), some (.int (nQ i)), o5], [], 0, 0) (sB 7 σ b (rX d 6 e)) = some (.inl (some (.int (nQ (i + k)))), sB 7 σ b (rX d 6 e')) := by
    intro m
    induction m with
    | zero => intro k i e us o5 hk; cases hk
    | succ m ih =>
      intro k i e us o5 hk
      unfold fwN at hk
      rw [g167_27]
      by_cases c1 : d 1 (245 + 2 * a) = nQ 0
      · rw [if_pos (Or.inl c1)] at hk
        obtain rfl := Option.some.inj hk
        exact ⟨e, by simp only [aOk, eq_self, tk_sB, pr_sB, tk_wr, pr_wr, nQ_nat, nQ_neg, nQ_add, nQ_mul, nQ_lt, leF, ltT, ltF, rd_sB, rd_sB0, wr_sB, wr_sB0, cn_l, cn_r, Option.toList, List.cons_append, List.nil_append, if_true, if_false, true_and, and_true, or_false, false_or, true_or, or_true, not_false_eq_true, not_true_eq_false, and_false, false_and, zb_0, zb_1, q10, c1, g167_67, Nat.add_zero]⟩
      · by_cases c2 : d 1 (245 + 2 * a) < us
        · rw [if_neg (fun z => z.elim c1 (fun z => z c2))] at hk
          split at hk
          · cases hk
          · next j hj =>
            have hlt := la_lt _ _ _ _ _ hj
            cases hr : fwN (d 1) n (nQ a) (d 1 (245 + 2 * a)) m (up e j (nQ 1)) (us - d 1 (5 + 4 * j + 3)) with
            | none => rw [hr] at hk; cases hk
            | some k' =>
              rw [hr] at hk
              obtain rfl : k' + 1 = k := Option.some.inj hk
              obtain ⟨e', he⟩ := ih k' (i + 1) _ _ (some (.int (nQ j))) hr
              refine ⟨e', ?_⟩
              have q : DoM 165 [.ref b, .int (nQ a)] (sB 7 σ b (rX d 6 e)) = some (.inl (some (.int (nQ j))), sB 7 σ b (rX d 6 e)) := by
                have := m165 (d := rX d 6 e) h (show rX d 6 e 1 4 = nQ n from hn) h60 (nQ a)
                rw [show laO (rX d 6 e 1) (rX d 6 e 6) (nQ a) n = some j from hj] at this
                exact this
              rw [if_neg c1, if_pos c2]
              simp (disch := omega) only [aOk, eq_self, tk_sB, pr_sB, tk_wr, pr_wr, nQ_nat, nQ_neg, nQ_add, nQ_mul, nQ_lt, leF, ltT, ltF, rd_sB, rd_sB0, wr_sB, wr_sB0, cn_l, cn_r, Option.toList, List.cons_append, List.nil_append, if_true, if_false, true_and, and_true, or_false, false_or, true_or, or_true, not_false_eq_true, not_true_eq_false, and_false, false_and, zb_0, zb_1, q10, h0, q, p6, t6, e1, rX_s, rX_r, rX_n, m112 h, g167_19, g167_41, g167_51, g167_59, g167_67]
              rw [show i + (k' + 1) = i + 1 + k' by omega]
              exact he
        · rw [if_pos (Or.inr c2)] at hk
          obtain rfl := Option.some.inj hk
          exact ⟨e, by simp only [aOk, eq_self, tk_sB, pr_sB, tk_wr, pr_wr, nQ_nat, nQ_neg, nQ_add, nQ_mul, nQ_lt, leF, ltT, ltF, rd_sB, rd_sB0, wr_sB, wr_sB0, cn_l, cn_r, Option.toList, List.cons_append, List.nil_append, if_true, if_false, true_and, and_true, or_false, false_or, true_or, or_true, not_false_eq_true, not_true_eq_false, and_false, false_and, zb_0, zb_1, q10, c1, c2, g167_67, Nat.add_zero]⟩
  obtain ⟨e', he⟩ := L m k 0 _ _ none hk
  refine ⟨e', ?_⟩
  refine (g167_0).trans ?_
  simp (disch := omega) only [aOk, eq_self, tk_sB, pr_sB, tk_wr, pr_wr, nQ_nat, nQ_neg, nQ_add, nQ_mul, nQ_lt, leF, ltT, ltF, rd_sB, rd_sB0, wr_sB, wr_sB0, cn_l, cn_r, Option.toList, List.cons_append, List.nil_append, if_true, if_false, true_and, and_true, or_false, false_or, true_or, or_true, not_false_eq_true, not_true_eq_false, and_false, false_and, zb_0, zb_1, q10, h0, p1, t1, m116 h hn h60, m166 h, g167_19]
  rw [he, Nat.zero_add]
theorem m168_1 (h : ShM σ b) {v : Int32} (hx : ¬ inP v (nQ 0) (nQ 8)) : DoM 168 [.ref b, .int v] (sB 7 σ b d) = some (.inl (some (.int (nQ 0))), sB 7 σ b (thF d 1)) := by
  have h0 := h.2.1
  refine (g168_0).trans ?_
  simp (disch := omega) only [m106, if_z, eq_false hx, aOk, eq_self, tk_sB, pr_sB, tk_wr, pr_wr, nQ_nat, nQ_neg, nQ_add, nQ_mul, nQ_lt, leF, ltT, ltF, rd_sB, rd_sB0, wr_sB, wr_sB0, cn_l, cn_r, Option.toList, List.cons_append, List.nil_append, if_true, if_false, true_and, and_true, or_false, false_or, true_or, or_true, not_false_eq_true, not_true_eq_false, and_false, false_and, zb_0, zb_1, q10, h0, m107 h, g168_8, g168_16, g168_19, g168_27, g168_31]
theorem m168_0 (h : ShM σ b) {n : Nat} (hn : d 1 4 = nQ n) (h60 : n ≤ 60) {a m k : Nat} (ha : a < 9) (hk : fwN (d 1) n (nQ a) (d 1 (245 + 2 * a)) m (fun i => if i < 60 then nQ 0 else d 6 i) (usF (d 1) (nQ a) 0 n) = some k) : ∃ e, DoM 168 [.ref b, .int (nQ a)] (sB 7 σ b d) = some (.inl (some (.int (nQ k))), sB 7 σ b (rX (thF d 0) 6 e)) := by
  have h0 := h.2.1
  have hx : inP (nQ a) (nQ 0) (nQ 8) = True := eq_true (in_Q (by omega) (by decide))
  obtain ⟨e, he⟩ := m167 (d := thF d 0) h (show thF d 0 1 4 = nQ n from hn) h60 ha hk
  refine ⟨e, ?_⟩
  refine (g168_0).trans ?_
  simp (disch := omega) only [m106, if_z, hx, aOk, eq_self, tk_sB, pr_sB, tk_wr, pr_wr, nQ_nat, nQ_neg, nQ_add, nQ_mul, nQ_lt, leF, ltT, ltF, rd_sB, rd_sB0, wr_sB, wr_sB0, cn_l, cn_r, Option.toList, List.cons_append, List.nil_append, if_true, if_false, true_and, and_true, or_false, false_or, true_or, or_true, not_false_eq_true, not_true_eq_false, and_false, false_and, zb_0, zb_1, q10, h0, m107 h, he, g168_8, g168_16, g168_19, g168_27, g168_31]
/-- what is told of a file -/
def toF (f : Nat → Int32) (n : Nat) (key : Int32) (w : Nat) (v : Int32) : Prop := (∃ i, i < n ∧ v = f (5 + 4 * i + w) ∧ f (5 + 4 * i) = key) ∨ (v = -1 ∧ ∀ i, i < n → ¬ f (5 + 4 * i) = key)
theorem m169_1 (h : ShM σ b) {v w : Int32} (x : Int32) (hx : ¬ (inP v (nQ 0) (nQ 9) ∧ inP w (nQ 0) (nQ 99))) : DoM 169 [.ref b, .int v, .int w, .int x] (sB 7 σ b d) = some (.inl (some (.int (nQ 0))), sB 7 σ b (thF d 1)) := by
  have h0 := h.2.1
  refine (g169_0).trans ?_
  simp (disch := omega) only [m110, if_z, eq_false hx, aOk, eq_self, tk_sB, pr_sB, tk_wr, pr_wr, nQ_nat, nQ_neg, nQ_add, nQ_mul, nQ_lt, leF, ltT, ltF, rd_sB, rd_sB0, wr_sB, wr_sB0, cn_l, cn_r, Option.toList, List.cons_append, List.nil_append, if_true, if_false, true_and, and_true, or_false, false_or, true_or, or_true, not_false_eq_true, not_true_eq_false, and_false, false_and, zb_0, zb_1, q10, h0, m107 h, g169_6, g169_14, g169_17, g169_28, g169_47]
theorem m169_0 (h : ShM σ b) {n : Nat} (hn : d 1 4 = nQ n) (h60 : n ≤ 60) {v w : Int32} {x : Nat} (hw : x < 4) (hx : inP v (nQ 0) (nQ 9) ∧ inP w (nQ 0) (nQ 99)) : ∃ z, DoM 169 [.ref b, .int v, .int w, .int (nQ x)] (sB 7 σ b d) = some (.inl (some (.int z)), sB 7 σ b (thF d 0)) ∧ toF (d 1) n (nQ 100 * v + w) x z := by
  have h0 := h.2.1
  obtain ⟨y, e, hy⟩ := m114 (d := thF d 0) h (show thF d 0 1 4 = nQ n from hn) h60 v w
  rcases hy with ⟨i, hi, rfl, hk⟩ | ⟨rfl, hk⟩
  · refine ⟨d 1 (5 + 4 * i + x), ?_, Or.inl ⟨i, hi, rfl, hk⟩⟩
    have ej := nQ_m1 (i := i) (by omega)
    refine (g169_0).trans ?_
    simp (disch := omega) only [m110, if_z, eq_true hx, aOk, eq_self, tk_sB, pr_sB, tk_wr, pr_wr, nQ_nat, nQ_neg, nQ_add, nQ_mul, nQ_lt, leF, ltT, ltF, rd_sB, rd_sB0, wr_sB, wr_sB0, cn_l, cn_r, Option.toList, List.cons_append, List.nil_append, if_true, if_false, true_and, and_true, or_false, false_or, true_or, or_true, not_false_eq_true, not_true_eq_false, and_false, false_and, zb_0, zb_1, q10, h0, m107 h, e, ej, m112 h, rX_0, g169_6, g169_14, g169_17, g169_28, g169_47]
  · refine ⟨-1, ?_, Or.inr ⟨rfl, hk⟩⟩
    refine (g169_0).trans ?_
    simp (disch := omega) only [m110, if_z, eq_true hx, aOk, eq_self, tk_sB, pr_sB, tk_wr, pr_wr, nQ_nat, nQ_neg, nQ_add, nQ_mul, nQ_lt, leF, ltT, ltF, rd_sB, rd_sB0, wr_sB, wr_sB0, cn_l, cn_r, Option.toList, List.cons_append, List.nil_append, if_true, if_false, true_and, and_true, or_false, false_or, true_or, or_true, not_false_eq_true, not_true_eq_false, and_false, false_and, zb_0, zb_1, q10, h0, m107 h, e, g169_6, g169_14, g169_17, g169_28, g169_47]
theorem m170_1 (h : ShM σ b) {v w : Int32} (hx : ¬ (inP v (nQ 0) (nQ 9) ∧ inP w (nQ 0) (nQ 99))) : DoM 170 [.ref b, .int v, .int w] (sB 7 σ b d) = some (.inl (some (.int (nQ 0))), sB 7 σ b (thF d 1)) := by
  have h0 := h.2.1
  refine (g170_0).trans ?_
  simp (disch := omega) only [aOk, eq_self, tk_sB, pr_sB, tk_wr, pr_wr, nQ_nat, nQ_neg, nQ_add, nQ_mul, nQ_lt, leF, ltT, ltF, rd_sB, rd_sB0, wr_sB, wr_sB0, cn_l, cn_r, Option.toList, List.cons_append, List.nil_append, if_true, if_false, true_and, and_true, or_false, false_or, true_or, or_true, not_false_eq_true, not_true_eq_false, and_false, false_and, zb_0, zb_1, q10, h0, m169_1 h _ hx, g170_7]
theorem m170_0 (h : ShM σ b) {n : Nat} (hn : d 1 4 = nQ n) (h60 : n ≤ 60) {v w : Int32} (hx : inP v (nQ 0) (nQ 9) ∧ inP w (nQ 0) (nQ 99)) : ∃ z, DoM 170 [.ref b, .int v, .int w] (sB 7 σ b d) = some (.inl (some (.int z)), sB 7 σ b (thF d 0)) ∧ toF (d 1) n (nQ 100 * v + w) 3 z := by
  have h0 := h.2.1
  obtain ⟨z, e, hz⟩ := m169_0 h hn h60 (x := 3) (by decide) hx
  refine ⟨z, ?_, hz⟩
  refine (g170_0).trans ?_
  simp (disch := omega) only [aOk, eq_self, tk_sB, pr_sB, tk_wr, pr_wr, nQ_nat, nQ_neg, nQ_add, nQ_mul, nQ_lt, leF, ltT, ltF, rd_sB, rd_sB0, wr_sB, wr_sB0, cn_l, cn_r, Option.toList, List.cons_append, List.nil_append, if_true, if_false, true_and, and_true, or_false, false_or, true_or, or_true, not_false_eq_true, not_true_eq_false, and_false, false_and, zb_0, zb_1, q10, h0, e, g170_7]
theorem m171_1 (h : ShM σ b) {v w : Int32} (hx : ¬ (inP v (nQ 0) (nQ 9) ∧ inP w (nQ 0) (nQ 99))) : DoM 171 [.ref b, .int v, .int w] (sB 7 σ b d) = some (.inl (some (.int (nQ 0))), sB 7 σ b (thF d 1)) := by
  have h0 := h.2.1
  refine (g171_0).trans ?_
  simp (disch := omega) only [aOk, eq_self, tk_sB, pr_sB, tk_wr, pr_wr, nQ_nat, nQ_neg, nQ_add, nQ_mul, nQ_lt, leF, ltT, ltF, rd_sB, rd_sB0, wr_sB, wr_sB0, cn_l, cn_r, Option.toList, List.cons_append, List.nil_append, if_true, if_false, true_and, and_true, or_false, false_or, true_or, or_true, not_false_eq_true, not_true_eq_false, and_false, false_and, zb_0, zb_1, q10, h0, m169_1 h _ hx, g171_7]
theorem m171_0 (h : ShM σ b) {n : Nat} (hn : d 1 4 = nQ n) (h60 : n ≤ 60) {v w : Int32} (hx : inP v (nQ 0) (nQ 9) ∧ inP w (nQ 0) (nQ 99)) : ∃ z, DoM 171 [.ref b, .int v, .int w] (sB 7 σ b d) = some (.inl (some (.int z)), sB 7 σ b (thF d 0)) ∧ toF (d 1) n (nQ 100 * v + w) 1 z := by
  have h0 := h.2.1
  obtain ⟨z, e, hz⟩ := m169_0 h hn h60 (x := 1) (by decide) hx
  refine ⟨z, ?_, hz⟩
  refine (g171_0).trans ?_
  simp (disch := omega) only [aOk, eq_self, tk_sB, pr_sB, tk_wr, pr_wr, nQ_nat, nQ_neg, nQ_add, nQ_mul, nQ_lt, leF, ltT, ltF, rd_sB, rd_sB0, wr_sB, wr_sB0, cn_l, cn_r, Option.toList, List.cons_append, List.nil_append, if_true, if_false, true_and, and_true, or_false, false_or, true_or, or_true, not_false_eq_true, not_true_eq_false, and_false, false_and, zb_0, zb_1, q10, h0, e, g171_7]
theorem m172_1 (h : ShM σ b) {v w : Int32} (hx : ¬ (inP v (nQ 0) (nQ 9) ∧ inP w (nQ 0) (nQ 99))) : DoM 172 [.ref b, .int v, .int w] (sB 7 σ b d) = some (.inl (some (.int (nQ 0))), sB 7 σ b (thF d 1)) := by
  have h0 := h.2.1
  refine (g172_0).trans ?_
  simp (disch := omega) only [aOk, eq_self, tk_sB, pr_sB, tk_wr, pr_wr, nQ_nat, nQ_neg, nQ_add, nQ_mul, nQ_lt, leF, ltT, ltF, rd_sB, rd_sB0, wr_sB, wr_sB0, cn_l, cn_r, Option.toList, List.cons_append, List.nil_append, if_true, if_false, true_and, and_true, or_false, false_or, true_or, or_true, not_false_eq_true, not_true_eq_false, and_false, false_and, zb_0, zb_1, q10, h0, m169_1 h _ hx, g172_7]
theorem m172_0 (h : ShM σ b) {n : Nat} (hn : d 1 4 = nQ n) (h60 : n ≤ 60) {v w : Int32} (hx : inP v (nQ 0) (nQ 9) ∧ inP w (nQ 0) (nQ 99)) : ∃ z, DoM 172 [.ref b, .int v, .int w] (sB 7 σ b d) = some (.inl (some (.int z)), sB 7 σ b (thF d 0)) ∧ toF (d 1) n (nQ 100 * v + w) 2 z := by
  have h0 := h.2.1
  obtain ⟨z, e, hz⟩ := m169_0 h hn h60 (x := 2) (by decide) hx
  refine ⟨z, ?_, hz⟩
  refine (g172_0).trans ?_
  simp (disch := omega) only [aOk, eq_self, tk_sB, pr_sB, tk_wr, pr_wr, nQ_nat, nQ_neg, nQ_add, nQ_mul, nQ_lt, leF, ltT, ltF, rd_sB, rd_sB0, wr_sB, wr_sB0, cn_l, cn_r, Option.toList, List.cons_append, List.nil_append, if_true, if_false, true_and, and_true, or_false, false_or, true_or, or_true, not_false_eq_true, not_true_eq_false, and_false, false_and, zb_0, zb_1, q10, h0, e, g172_7]
def dzF (f : Nat → Int32) (w : Int32) : Nat → Int32
  | 0 => nQ 0
  | n + 1 => dzF f w n + (if f (5 + 4 * n) / nQ 100 = w then f (5 + 4 * n + 3) else nQ 0)
theorem dz_s (f : Nat → Int32) (w : Int32) (n : Nat) : dzF f w (n + 1) = dzF f w n + (if f (5 + 4 * n) / nQ 100 = w then f (5 + 4 * n + 3) else nQ 0) := rfl
theorem m174_1 (h : ShM σ b) {v : Int32} (hx : ¬ inP v (nQ 0) (nQ 9)) : DoM 174 [.ref b, .int v] (sB 7 σ b d) = some (.inl (some (.int (nQ 0))), sB 7 σ b (thF d 1)) := by
  have h0 := h.2.1
  refine (g174_0).trans ?_
  simp (disch := omega) only [m106, if_z, eq_false hx, aOk, eq_self, tk_sB, pr_sB, tk_wr, pr_wr, nQ_nat, nQ_neg, nQ_add, nQ_mul, nQ_lt, leF, ltT, ltF, rd_sB, rd_sB0, wr_sB, wr_sB0, cn_l, cn_r, Option.toList, List.cons_append, List.nil_append, if_true, if_false, true_and, and_true, or_false, false_or, true_or, or_true, not_false_eq_true, not_true_eq_false, and_false, false_and, zb_0, zb_1, q10, h0, m107 h, g174_8, g174_16, g174_19, g174_28, g174_45, g174_58, g174_62]
theorem m174_0 (h : ShM σ b) {n : Nat} (hn : d 1 4 = nQ n) (h60 : n ≤ 60) {v : Int32} (hx : inP v (nQ 0) (nQ 9)) : DoM 174 [.ref b, .int v] (sB 7 σ b d) = some (.inl (some (.int (dzF (d 1) v n))), sB 7 σ b (thF d 0)) := by
  obtain ⟨h8, h0, ⟨p1, p2, p3, p4, p5, p6⟩, t1, t2, t3, t4, t5, t6⟩ := id h
  have L : ∀ (m i : Nat), i + m = n → RuM 174 (28, [some (.ref b), some (.int v), some (.int (dzF (d 1) v i)), some (.int (nQ i))], [], 0, 0) (sB 7 σ b (thF d 0)) = some (.inl (some (.int (dzF (d 1) v n))), sB 7 σ b (thF d 0)) := by
    intro m
    induction m with
    | zero =>
      intro i e
      obtain rfl : i = n := e
      rw [g174_28]
      simp (disch := omega) only [aOk, eq_self, tk_sB, pr_sB, tk_wr, pr_wr, nQ_nat, nQ_neg, nQ_add, nQ_mul, nQ_lt, leF, ltT, ltF, rd_sB, rd_sB0, wr_sB, wr_sB0, cn_l, cn_r, Option.toList, List.cons_append, List.nil_append, if_true, if_false, true_and, and_true, or_false, false_or, true_or, or_true, not_false_eq_true, not_true_eq_false, and_false, false_and, zb_0, zb_1, q10, h0, p1, t1, rX_n, hn]
    | succ m ih =>
      intro i e
      have ih' := ih (i + 1) (by omega)
      rw [dz_s] at ih'
      rw [g174_28]
      by_cases c1 : d 1 (5 + 4 * i) / nQ 100 = v <;> simp (disch := omega) only [aOk, eq_self, tk_sB, pr_sB, tk_wr, pr_wr, nQ_nat, nQ_neg, nQ_add, nQ_mul, nQ_lt, leF, ltT, ltF, rd_sB, rd_sB0, wr_sB, wr_sB0, cn_l, cn_r, Option.toList, List.cons_append, List.nil_append, if_true, if_false, true_and, and_true, or_false, false_or, true_or, or_true, not_false_eq_true, not_true_eq_false, and_false, false_and, zb_0, zb_1, q10, h0, p1, t1, rX_n, hn, m112 h, Nat.add_zero, c1, g174_8, g174_16, g174_19, g174_45, g174_58, g174_62] at ih' ⊢ <;> exact ih'
  refine (g174_0).trans ?_
  simp (disch := omega) only [m106, if_z, eq_true hx, aOk, eq_self, tk_sB, pr_sB, tk_wr, pr_wr, nQ_nat, nQ_neg, nQ_add, nQ_mul, nQ_lt, leF, ltT, ltF, rd_sB, rd_sB0, wr_sB, wr_sB0, cn_l, cn_r, Option.toList, List.cons_append, List.nil_append, if_true, if_false, true_and, and_true, or_false, false_or, true_or, or_true, not_false_eq_true, not_true_eq_false, and_false, false_and, zb_0, zb_1, q10, h0, m107 h, g174_8, g174_16, g174_19, g174_45, g174_58, g174_62]
  exact L n 0 (Nat.zero_add n)
theorem m175_1 (h : ShM σ b) {v : Int32} (hx : ¬ inP v (nQ 0) (nQ 8)) : DoM 175 [.ref b, .int v] (sB 7 σ b d) = some (.inl (some (.int (nQ 0))), sB 7 σ b (thF d 1)) := by
  have h0 := h.2.1
  refine (g175_0).trans ?_
  simp (disch := omega) only [m106, if_z, eq_false hx, aOk, eq_self, tk_sB, pr_sB, tk_wr, pr_wr, nQ_nat, nQ_neg, nQ_add, nQ_mul, nQ_lt, leF, ltT, ltF, rd_sB, rd_sB0, wr_sB, wr_sB0, cn_l, cn_r, Option.toList, List.cons_append, List.nil_append, if_true, if_false, true_and, and_true, or_false, false_or, true_or, or_true, not_false_eq_true, not_true_eq_false, and_false, false_and, zb_0, zb_1, q10, h0, m107 h, g175_8, g175_16, g175_19, g175_28, g175_33, g175_49]
def lfF (f : Nat → Int32) (o : Option Nat) : Int32 := match o with
  | none => -1
  | some j => f (5 + 4 * j)
theorem m175_0 (h : ShM σ b) {n : Nat} (hn : d 1 4 = nQ n) (h60 : n ≤ 60) {v : Int32} (hx : inP v (nQ 0) (nQ 8)) : ∃ e, DoM 175 [.ref b, .int v] (sB 7 σ b d) = some (.inl (some (.int (lfF (d 1) (laO (d 1) (fun i => if i < 60 then nQ 0 else d 6 i) v n)))), sB 7 σ b (rX (thF d 0) 6 e)) := by
  obtain ⟨h8, h0, ⟨p1, p2, p3, p4, p5, p6⟩, t1, t2, t3, t4, t5, t6⟩ := id h
  refine ⟨fun i => if i < 60 then nQ 0 else d 6 i, ?_⟩
  have q := m165 (d := rX (thF d 0) 6 (fun i => if i < 60 then nQ 0 else d 6 i)) h (show rX (thF d 0) 6 _ 1 4 = nQ n from hn) h60 v
  have q' : DoM 165 [.ref b, .int v] (sB 7 σ b (rX (thF d 0) 6 (fun i => if i < 60 then nQ 0 else d 6 i))) = some (.inl (some (.int (oV (laO (d 1) (fun i => if i < 60 then nQ 0 else d 6 i) v n)))), sB 7 σ b (rX (thF d 0) 6 (fun i => if i < 60 then nQ 0 else d 6 i))) := q
  have q6 : DoM 166 [.ref b] (sB 7 σ b (thF d 0)) = some (.inl none, sB 7 σ b (rX (thF d 0) 6 (fun i => if i < 60 then nQ 0 else d 6 i))) := m166 (d := thF d 0) h
  refine (g175_0).trans ?_
  cases hl : laO (d 1) (fun i => if i < 60 then nQ 0 else d 6 i) v n with
  | none =>
    rw [hl] at q'
    simp (disch := omega) only [m106, if_z, eq_true hx, aOk, eq_self, tk_sB, pr_sB, tk_wr, pr_wr, nQ_nat, nQ_neg, nQ_add, nQ_mul, nQ_lt, leF, ltT, ltF, rd_sB, rd_sB0, wr_sB, wr_sB0, cn_l, cn_r, Option.toList, List.cons_append, List.nil_append, if_true, if_false, true_and, and_true, or_false, false_or, true_or, or_true, not_false_eq_true, not_true_eq_false, and_false, false_and, zb_0, zb_1, q10, h0, m107 h, q6, q', oV, lfF, g175_8, g175_16, g175_19, g175_28, g175_33, g175_49]
  | some j =>
    have hj := la_lt _ _ _ _ _ hl
    have ej := nQ_m1 (i := j) (by omega)
    rw [hl] at q'
    simp (disch := omega) only [m106, if_z, eq_true hx, aOk, eq_self, tk_sB, pr_sB, tk_wr, pr_wr, nQ_nat, nQ_neg, nQ_add, nQ_mul, nQ_lt, leF, ltT, ltF, rd_sB, rd_sB0, wr_sB, wr_sB0, cn_l, cn_r, Option.toList, List.cons_append, List.nil_append, if_true, if_false, true_and, and_true, or_false, false_or, true_or, or_true, not_false_eq_true, not_true_eq_false, and_false, false_and, zb_0, zb_1, q10, h0, m107 h, q6, q', oV, lfF, ej, m112 h, rX_n, Nat.add_zero, g175_8, g175_16, g175_19, g175_28, g175_33, g175_49]
theorem m176_1 (h : ShM σ b) {v w x : Int32} (hx : ¬ (inP v (nQ 0) (nQ 5) ∧ inP w (nQ 0) (nQ 2))) : DoM 176 [.ref b, .int v, .int w, .int x] (sB 7 σ b d) = some (.inl (some (.int (nQ 0))), sB 7 σ b (thF d 1)) := by
  have h0 := h.2.1
  refine (g176_0).trans ?_
  rcases Classical.propComplete (inP v (nQ 0) (nQ 5)) with e1 | e1
  · rcases Classical.propComplete (inP w (nQ 0) (nQ 2)) with e2 | e2
    · exact absurd ⟨of_eq_true e1, of_eq_true e2⟩ hx
    · simp (disch := omega) only [m108, m109, m106, if_z, e1, e2, aOk, eq_self, tk_sB, pr_sB, tk_wr, pr_wr, nQ_nat, nQ_neg, nQ_add, nQ_mul, nQ_lt, leF, ltT, ltF, rd_sB, rd_sB0, wr_sB, wr_sB0, cn_l, cn_r, Option.toList, List.cons_append, List.nil_append, if_true, if_false, true_and, and_true, or_false, false_or, true_or, or_true, not_false_eq_true, not_true_eq_false, and_false, false_and, zb_0, zb_1, q10, h0, m107 h, g176_5, g176_12, g176_15, g176_27, g176_35, g176_38, g176_51, g176_57]
  · simp (disch := omega) only [m108, m109, m106, if_z, e1, aOk, eq_self, tk_sB, pr_sB, tk_wr, pr_wr, nQ_nat, nQ_neg, nQ_add, nQ_mul, nQ_lt, leF, ltT, ltF, rd_sB, rd_sB0, wr_sB, wr_sB0, cn_l, cn_r, Option.toList, List.cons_append, List.nil_append, if_true, if_false, true_and, and_true, or_false, false_or, true_or, or_true, not_false_eq_true, not_true_eq_false, and_false, false_and, zb_0, zb_1, q10, h0, m107 h, g176_5, g176_12, g176_15, g176_27, g176_35, g176_38, g176_51, g176_57]
theorem m176_2 (h : ShM σ b) {v w x : Int32} (e1 : inP v (nQ 0) (nQ 5)) (e2 : inP w (nQ 0) (nQ 2)) (hz : ¬ inP x (nQ 0) (nQ 5000)) : DoM 176 [.ref b, .int v, .int w, .int x] (sB 7 σ b d) = some (.inl (some (.int (nQ 0))), sB 7 σ b (thF d 2)) := by
  have h0 := h.2.1
  refine (g176_0).trans ?_
  simp (disch := omega) only [m108, m109, m106, if_z, eq_true e1, eq_true e2, eq_false hz, aOk, eq_self, tk_sB, pr_sB, tk_wr, pr_wr, nQ_nat, nQ_neg, nQ_add, nQ_mul, nQ_lt, leF, ltT, ltF, rd_sB, rd_sB0, wr_sB, wr_sB0, cn_l, cn_r, Option.toList, List.cons_append, List.nil_append, if_true, if_false, true_and, and_true, or_false, false_or, true_or, or_true, not_false_eq_true, not_true_eq_false, and_false, false_and, zb_0, zb_1, q10, h0, q20, m107 h, g176_5, g176_12, g176_15, g176_27, g176_35, g176_38, g176_51, g176_57]
theorem m176_0 (h : ShM σ b) {n : Nat} (hn : d 1 4 = nQ n) (h60 : n ≤ 60) {u g : Nat} (hu : u < 6) (hg : g < 3) {x : Int32} (hz : inP x (nQ 0) (nQ 5000)) : DoM 176 [.ref b, .int (nQ u), .int (nQ g), .int x] (sB 7 σ b d) = some (.inl (some (.int (nQ (raN (d 1) n (riF (d 5) x (nQ 1) x (nQ 1)) u g)))), sB 7 σ b (rX (thF d 0) 5 (riF (d 5) x (nQ 1) x (nQ 1)))) := by
  have h0 := h.2.1
  have e1 : inP (nQ u) (nQ 0) (nQ 5) = True := eq_true (in_Q (by omega) (by decide))
  have e2 : inP (nQ g) (nQ 0) (nQ 2) = True := eq_true (in_Q (by omega) (by decide))
  have q5 : DoM 125 [.ref b, .int x, .int (nQ 1), .int x, .int (nQ 1)] (sB 7 σ b (thF d 0)) = some (.inl none, sB 7 σ b (rX (thF d 0) 5 (riF (d 5) x (nQ 1) x (nQ 1)))) := m125 (d := thF d 0) h _ _ _ _
  have q4 : DoM 124 [.ref b, .int (nQ u), .int (nQ g)] (sB 7 σ b (rX (thF d 0) 5 (riF (d 5) x (nQ 1) x (nQ 1)))) = some (.inl (some (.int (nQ (raN (d 1) n (riF (d 5) x (nQ 1) x (nQ 1)) u g)))), sB 7 σ b (rX (thF d 0) 5 (riF (d 5) x (nQ 1) x (nQ 1)))) := m124 (d := rX (thF d 0) 5 (riF (d 5) x (nQ 1) x (nQ 1))) h hn h60 hu hg
  refine (g176_0).trans ?_
  simp (disch := omega) only [m108, m109, m106, if_z, e1, e2, eq_true hz, aOk, eq_self, tk_sB, pr_sB, tk_wr, pr_wr, nQ_nat, nQ_neg, nQ_add, nQ_mul, nQ_lt, leF, ltT, ltF, rd_sB, rd_sB0, wr_sB, wr_sB0, cn_l, cn_r, Option.toList, List.cons_append, List.nil_append, if_true, if_false, true_and, and_true, or_false, false_or, true_or, or_true, not_false_eq_true, not_true_eq_false, and_false, false_and, zb_0, zb_1, q10, h0, m107 h, q5, q4, g176_5, g176_12, g176_15, g176_27, g176_35, g176_38, g176_51, g176_57]
def rwF (f : Nat → Int32) (k : Nat) (us st dy : Int32) : Int32 := if ¬ f (245 + k) = nQ 0 ∧ f (245 + k) < us then (if st = -1 then dy else st) else -1
theorem m177 (h : ShM σ b) {a : Nat} (ha : a < 9) (us st dy : Int32) : DoM 177 [.ref b, .int (nQ a), .int us, .int st, .int dy] (sB 7 σ b d) = some (.inl (some (.int (rwF (d 1) (2 * a) us st dy))), sB 7 σ b d) := by
  obtain ⟨h8, h0, ⟨p1, p2, p3, p4, p5, p6⟩, t1, t2, t3, t4, t5, t6⟩ := id h
  refine (g177_0).trans ?_
  unfold rwF
  by_cases c1 : d 1 (245 + 2 * a) = nQ 0 <;> by_cases c2 : d 1 (245 + 2 * a) < us <;> by_cases c3 : st = -1 <;> simp (disch := omega) only [aOk, eq_self, tk_sB, pr_sB, tk_wr, pr_wr, nQ_nat, nQ_neg, nQ_add, nQ_mul, nQ_lt, leF, ltT, ltF, rd_sB, rd_sB0, wr_sB, wr_sB0, cn_l, cn_r, Option.toList, List.cons_append, List.nil_append, if_true, if_false, true_and, and_true, or_false, false_or, true_or, or_true, not_false_eq_true, not_true_eq_false, and_false, false_and, zb_0, zb_1, q10, h0, p1, t1, c1, c2, c3, q10, g177_35, g177_36, g177_58]
def drF (f : Nat → Int32) (u g : Nat) (z : Int32) : Nat → Nat → Int32 → Int32 → Int32 → Int32 → Int32
  | 0, _, _, _, _, _ => -1
  | m + 1, i, us, uo, st, so => if 0 < caN f (2 * u) us z (ovF f st (f 0 + nQ i) 0) + caN f (2 * (6 + g)) uo z (ovF f so (f 0 + nQ i) 0) then nQ i
    else drF f u g z m (i + 1) (us + z) (uo + z) (rwF f (2 * u) (us + z) st (f 0 + nQ i)) (rwF f (2 * (6 + g)) (uo + z) so (f 0 + nQ i))
theorem m178 (h : ShM σ b) {n : Nat} (hn : d 1 4 = nQ n) (h60 : n ≤ 60) {u g : Nat} (hu : u < 6) (hg : g < 3) (z : Int32) : DoM 178 [.ref b, .int (nQ u), .int (nQ g), .int z] (sB 7 σ b d) = some (.inl (some (.int (drF (d 1) u g z 400 1 (usF (d 1) (nQ u) 0 n) (usF (d 1) (nQ (6 + g)) 0 n) (d 1 (281 + 2 * u)) (d 1 (281 + 2 * (6 + g)))))), sB 7 σ b d) := by
  obtain ⟨h8, h0, ⟨p1, p2, p3, p4, p5, p6⟩, t1, t2, t3, t4, t5, t6⟩ := id h
  have L : ∀ (m i : Nat) (us uo st so : Int32) (o10 o11 : Option Value), i + m = 401 → RuM 178 (55, [some (.ref b), some (.int (nQ u)), some (.int (nQ g)), some (.int z), some (.int (nQ (6 + g))), some (.int us), some (.int uo), some (.int st), some (.int so), some (.int (nQ i)), o10, o11], [], 0, 0) (sB 7 σ b d) = some (.inl (some (.int (drF (d 1) u g z m i us uo st so))), sB 7 σ b d) := by
    intro m
    induction m with
    | zero =>
      intro i us uo st so o10 o11 e
      obtain rfl : i = 401 := e
      rw [g178_55]
      simp (disch := omega) only [aOk, eq_self, tk_sB, pr_sB, tk_wr, pr_wr, nQ_nat, nQ_neg, nQ_add, nQ_mul, nQ_lt, leF, ltT, ltF, rd_sB, rd_sB0, wr_sB, wr_sB0, cn_l, cn_r, Option.toList, List.cons_append, List.nil_append, if_true, if_false, true_and, and_true, or_false, false_or, true_or, or_true, not_false_eq_true, not_true_eq_false, and_false, false_and, zb_0, zb_1, q10, drF]
    | succ m ih =>
      intro i us uo st so o10 o11 e
      have ih' := fun a b c d x y => ih (i + 1) a b c d x y (by omega)
      have c1 := ca_le (d 1) (2 * u) us z (ovF (d 1) st (d 1 0 + nQ i) 0)
      have c2 := ca_le (d 1) (2 * (6 + g)) uo z (ovF (d 1) so (d 1 0 + nQ i) 0)
      rw [g178_55]
      simp (disch := omega) only [aOk, eq_self, tk_sB, pr_sB, tk_wr, pr_wr, nQ_nat, nQ_neg, nQ_add, nQ_mul, nQ_lt, leF, ltT, ltF, rd_sB, rd_sB0, wr_sB, wr_sB0, cn_l, cn_r, Option.toList, List.cons_append, List.nil_append, if_true, if_false, true_and, and_true, or_false, false_or, true_or, or_true, not_false_eq_true, not_true_eq_false, and_false, false_and, zb_0, zb_1, q10, h0, p1, t1, m120 h, m121 h, m177 h, g178_12, g178_21, g178_90, g178_93, g178_110, g178_113, g178_147, g178_161]
      unfold drF
      split
      · rfl
      · exact ih' _ _ _ _ _ _
  refine (g178_0).trans ?_
  simp (disch := omega) only [aOk, eq_self, tk_sB, pr_sB, tk_wr, pr_wr, nQ_nat, nQ_neg, nQ_add, nQ_mul, nQ_lt, leF, ltT, ltF, rd_sB, rd_sB0, wr_sB, wr_sB0, cn_l, cn_r, Option.toList, List.cons_append, List.nil_append, if_true, if_false, true_and, and_true, or_false, false_or, true_or, or_true, not_false_eq_true, not_true_eq_false, and_false, false_and, zb_0, zb_1, q10, h0, p1, t1, m116 h hn h60, g178_12, g178_21, g178_90, g178_93, g178_110, g178_113, g178_147, g178_161]
  exact L 400 1 _ _ _ _ none none rfl
theorem m179_1 (h : ShM σ b) {v w x : Int32} (hx : ¬ (inP v (nQ 0) (nQ 5) ∧ inP w (nQ 0) (nQ 2))) : DoM 179 [.ref b, .int v, .int w, .int x] (sB 7 σ b d) = some (.inl (some (.int (nQ 0))), sB 7 σ b (thF d 1)) := by
  have h0 := h.2.1
  refine (g179_0).trans ?_
  rcases Classical.propComplete (inP v (nQ 0) (nQ 5)) with e1 | e1
  · rcases Classical.propComplete (inP w (nQ 0) (nQ 2)) with e2 | e2
    · exact absurd ⟨of_eq_true e1, of_eq_true e2⟩ hx
    · simp (disch := omega) only [m108, m109, m106, if_z, e1, e2, aOk, eq_self, tk_sB, pr_sB, tk_wr, pr_wr, nQ_nat, nQ_neg, nQ_add, nQ_mul, nQ_lt, leF, ltT, ltF, rd_sB, rd_sB0, wr_sB, wr_sB0, cn_l, cn_r, Option.toList, List.cons_append, List.nil_append, if_true, if_false, true_and, and_true, or_false, false_or, true_or, or_true, not_false_eq_true, not_true_eq_false, and_false, false_and, zb_0, zb_1, q10, h0, m107 h, g179_5, g179_12, g179_15, g179_27, g179_35, g179_38, g179_48, g179_62]
  · simp (disch := omega) only [m108, m109, m106, if_z, e1, aOk, eq_self, tk_sB, pr_sB, tk_wr, pr_wr, nQ_nat, nQ_neg, nQ_add, nQ_mul, nQ_lt, leF, ltT, ltF, rd_sB, rd_sB0, wr_sB, wr_sB0, cn_l, cn_r, Option.toList, List.cons_append, List.nil_append, if_true, if_false, true_and, and_true, or_false, false_or, true_or, or_true, not_false_eq_true, not_true_eq_false, and_false, false_and, zb_0, zb_1, q10, h0, m107 h, g179_5, g179_12, g179_15, g179_27, g179_35, g179_38, g179_48, g179_62]
theorem m179_2 (h : ShM σ b) {v w x : Int32} (e1 : inP v (nQ 0) (nQ 5)) (e2 : inP w (nQ 0) (nQ 2)) (hz : ¬ inP x (nQ 1) (nQ 5000)) : DoM 179 [.ref b, .int v, .int w, .int x] (sB 7 σ b d) = some (.inl (some (.int (nQ 0))), sB 7 σ b (thF d 2)) := by
  have h0 := h.2.1
  refine (g179_0).trans ?_
  simp (disch := omega) only [m108, m109, m106, if_z, eq_true e1, eq_true e2, eq_false hz, aOk, eq_self, tk_sB, pr_sB, tk_wr, pr_wr, nQ_nat, nQ_neg, nQ_add, nQ_mul, nQ_lt, leF, ltT, ltF, rd_sB, rd_sB0, wr_sB, wr_sB0, cn_l, cn_r, Option.toList, List.cons_append, List.nil_append, if_true, if_false, true_and, and_true, or_false, false_or, true_or, or_true, not_false_eq_true, not_true_eq_false, and_false, false_and, zb_0, zb_1, q10, h0, q20, m107 h, g179_5, g179_12, g179_15, g179_27, g179_35, g179_38, g179_48, g179_62]
theorem m179_0 (h : ShM σ b) {n : Nat} (hn : d 1 4 = nQ n) (h60 : n ≤ 60) {u g : Nat} (hu : u < 6) (hg : g < 3) {x : Int32} (hz : inP x (nQ 1) (nQ 5000)) : DoM 179 [.ref b, .int (nQ u), .int (nQ g), .int x] (sB 7 σ b d) = some (.inl (some (.int (if frF (d 1) u then -1 else drF (d 1) u g x 400 1 (usF (d 1) (nQ u) 0 n) (usF (d 1) (nQ (6 + g)) 0 n) (d 1 (281 + 2 * u)) (d 1 (281 + 2 * (6 + g)))))), sB 7 σ b (thF d 0)) := by
  have h0 := h.2.1
  have e1 : inP (nQ u) (nQ 0) (nQ 5) = True := eq_true (in_Q (by omega) (by decide))
  have e2 : inP (nQ g) (nQ 0) (nQ 2) = True := eq_true (in_Q (by omega) (by decide))
  have q8 : DoM 178 [.ref b, .int (nQ u), .int (nQ g), .int x] (sB 7 σ b (thF d 0)) = some (.inl (some (.int (drF (d 1) u g x 400 1 (usF (d 1) (nQ u) 0 n) (usF (d 1) (nQ (6 + g)) 0 n) (d 1 (281 + 2 * u)) (d 1 (281 + 2 * (6 + g)))))), sB 7 σ b (thF d 0)) := m178 (d := thF d 0) h hn h60 hu hg x
  refine (g179_0).trans ?_
  rcases Classical.propComplete (frF (d 1) u) with e3 | e3 <;> simp (disch := omega) only [m108, m109, m106, m122 h, if_z, e1, e2, e3, eq_true hz, aOk, eq_self, tk_sB, pr_sB, tk_wr, pr_wr, nQ_nat, nQ_neg, nQ_add, nQ_mul, nQ_lt, leF, ltT, ltF, rd_sB, rd_sB0, wr_sB, wr_sB0, cn_l, cn_r, Option.toList, List.cons_append, List.nil_append, if_true, if_false, true_and, and_true, or_false, false_or, true_or, or_true, not_false_eq_true, not_true_eq_false, and_false, false_and, zb_0, zb_1, q10, h0, m107 h, q8, q10, rX_0, g179_5, g179_12, g179_15, g179_27, g179_35, g179_38, g179_48, g179_62]
theorem m182_1 (h : ShM σ b) {v : Int32} (hx : ¬ inP v (nQ 0) (nQ 5)) : DoM 182 [.ref b, .int v] (sB 7 σ b d) = some (.inl (some (.int (nQ 0))), sB 7 σ b (thF d 1)) := by
  have h0 := h.2.1
  refine (g182_0).trans ?_
  simp (disch := omega) only [m108, if_z, eq_false hx, aOk, eq_self, tk_sB, pr_sB, tk_wr, pr_wr, nQ_nat, nQ_neg, nQ_add, nQ_mul, nQ_lt, leF, ltT, ltF, rd_sB, rd_sB0, wr_sB, wr_sB0, cn_l, cn_r, Option.toList, List.cons_append, List.nil_append, if_true, if_false, true_and, and_true, or_false, false_or, true_or, or_true, not_false_eq_true, not_true_eq_false, and_false, false_and, zb_0, zb_1, q10, h0, m107 h, g182_5, g182_13, g182_16, g182_24, g182_31, g182_32]
theorem m182_0 (h : ShM σ b) {u : Nat} (hu : u < 6) : DoM 182 [.ref b, .int (nQ u)] (sB 7 σ b d) = some (.inl (some (.int (if frF (d 1) u then nQ 1 else nQ 0))), sB 7 σ b (thF d 0)) := by
  have h0 := h.2.1
  have e1 : inP (nQ u) (nQ 0) (nQ 5) = True := eq_true (in_Q (by omega) (by decide))
  refine (g182_0).trans ?_
  rcases Classical.propComplete (frF (d 1) u) with e3 | e3 <;> simp (disch := omega) only [m108, m122 h, if_z, e1, e3, aOk, eq_self, tk_sB, pr_sB, tk_wr, pr_wr, nQ_nat, nQ_neg, nQ_add, nQ_mul, nQ_lt, leF, ltT, ltF, rd_sB, rd_sB0, wr_sB, wr_sB0, cn_l, cn_r, Option.toList, List.cons_append, List.nil_append, if_true, if_false, true_and, and_true, or_false, false_or, true_or, or_true, not_false_eq_true, not_true_eq_false, and_false, false_and, zb_0, zb_1, q10, h0, m107 h, q10, rX_0, g182_5, g182_13, g182_16, g182_24, g182_31, g182_32]
abbrev gcP (f : Nat → Int32) (o : Bool) (k : Nat) : Prop := if o = true then ovF f (f (281 + k)) (f 0) (k - k / 2 * 2) else ¬ f (281 + k) = -1
def gcN (f : Nat → Int32) (o : Bool) : Nat → Nat
  | 0 => 0
  | k + 1 => gcN f o k + if gcP f o k then 1 else 0
theorem gc_s (f : Nat → Int32) (o : Bool) (k : Nat) : gcN f o (k + 1) = gcN f o k + if gcP f o k then 1 else 0 := rfl
theorem m183 (h : ShM σ b) (o : Bool) : DoM 183 [.ref b, .int (if o = true then nQ 1 else nQ 0)] (sB 7 σ b d) = some (.inl (some (.int (nQ (gcN (d 1) o 18)))), sB 7 σ b d) := by
  obtain ⟨h8, h0, ⟨p1, p2, p3, p4, p5, p6⟩, t1, t2, t3, t4, t5, t6⟩ := id h
  have L : ∀ (m i : Nat) (o4 : Option Value), i + m = 18 → RuM 183 (4, [some (.ref b), some (.int (if o = true then nQ 1 else nQ 0)), some (.int (nQ (gcN (d 1) o i))), some (.int (nQ i)), o4], [], 0, 0) (sB 7 σ b d) = some (.inl (some (.int (nQ (gcN (d 1) o 18)))), sB 7 σ b d) := by
    intro m
    induction m with
    | zero =>
      intro i o4 e
      obtain rfl : i = 18 := e
      rw [g183_4]
      simp (disch := omega) only [aOk, eq_self, tk_sB, pr_sB, tk_wr, pr_wr, nQ_nat, nQ_neg, nQ_add, nQ_mul, nQ_lt, leF, ltT, ltF, rd_sB, rd_sB0, wr_sB, wr_sB0, cn_l, cn_r, Option.toList, List.cons_append, List.nil_append, if_true, if_false, true_and, and_true, or_false, false_or, true_or, or_true, not_false_eq_true, not_true_eq_false, and_false, false_and, zb_0, zb_1, q10]
    | succ m ih =>
      intro i o4 e
      have ih' := fun x => ih (i + 1) x (by omega)
      rw [gc_s] at ih'
      rw [g183_4]
      cases o with
      | true =>
        rcases Classical.propComplete (ovF (d 1) (d 1 (281 + i)) (d 1 0) (i - i / 2 * 2)) with e1 | e1 <;> simp (disch := omega) only [aOk, eq_self, tk_sB, pr_sB, tk_wr, pr_wr, nQ_nat, nQ_neg, nQ_add, nQ_mul, nQ_lt, leF, ltT, ltF, rd_sB, rd_sB0, wr_sB, wr_sB0, cn_l, cn_r, Option.toList, List.cons_append, List.nil_append, if_true, if_false, true_and, and_true, or_false, false_or, true_or, or_true, not_false_eq_true, not_true_eq_false, and_false, false_and, zb_0, zb_1, q10, h0, p1, t1, nQ_div, nQ_sub, m120 h, e1, gcP, q10, g183_37, g183_59, g183_72] at ih' ⊢ <;> exact ih' _
      | false =>
        by_cases e1 : d 1 (281 + i) = -1 <;> simp (disch := omega) only [aOk, eq_self, tk_sB, pr_sB, tk_wr, pr_wr, nQ_nat, nQ_neg, nQ_add, nQ_mul, nQ_lt, leF, ltT, ltF, rd_sB, rd_sB0, wr_sB, wr_sB0, cn_l, cn_r, Option.toList, List.cons_append, List.nil_append, if_true, if_false, true_and, and_true, or_false, false_or, true_or, or_true, not_false_eq_true, not_true_eq_false, and_false, false_and, zb_0, zb_1, q10, h0, p1, t1, e1, gcP, q10, Bool.false_eq_true, g183_37, g183_59, g183_72] at ih' ⊢ <;> exact ih' _
  refine (g183_0).trans ?_
  exact L 18 0 none rfl
theorem m184 (h : ShM σ b) : DoM 184 [.ref b] (sB 7 σ b d) = some (.inl (some (.int (nQ (gcN (d 1) false 18)))), sB 7 σ b (thF d 0)) := by
  have h0 := h.2.1
  have q : DoM 183 [.ref b, .int (nQ 0)] (sB 7 σ b (thF d 0)) = some (.inl (some (.int (nQ (gcN (d 1) false 18)))), sB 7 σ b (thF d 0)) := m183 (d := thF d 0) h false
  refine (g184_0).trans ?_
  simp (disch := omega) only [aOk, eq_self, tk_sB, pr_sB, tk_wr, pr_wr, nQ_nat, nQ_neg, nQ_add, nQ_mul, nQ_lt, leF, ltT, ltF, rd_sB, rd_sB0, wr_sB, wr_sB0, cn_l, cn_r, Option.toList, List.cons_append, List.nil_append, if_true, if_false, true_and, and_true, or_false, false_or, true_or, or_true, not_false_eq_true, not_true_eq_false, and_false, false_and, zb_0, zb_1, q10, h0, q, g184_5, g184_10]
theorem m185 (h : ShM σ b) : DoM 185 [.ref b] (sB 7 σ b d) = some (.inl (some (.int (nQ (gcN (d 1) true 18)))), sB 7 σ b (thF d 0)) := by
  have h0 := h.2.1
  have q : DoM 183 [.ref b, .int (nQ 1)] (sB 7 σ b (thF d 0)) = some (.inl (some (.int (nQ (gcN (d 1) true 18)))), sB 7 σ b (thF d 0)) := m183 (d := thF d 0) h true
  refine (g185_0).trans ?_
  simp (disch := omega) only [aOk, eq_self, tk_sB, pr_sB, tk_wr, pr_wr, nQ_nat, nQ_neg, nQ_add, nQ_mul, nQ_lt, leF, ltT, ltF, rd_sB, rd_sB0, wr_sB, wr_sB0, cn_l, cn_r, Option.toList, List.cons_append, List.nil_append, if_true, if_false, true_and, and_true, or_false, false_or, true_or, or_true, not_false_eq_true, not_true_eq_false, and_false, false_and, zb_0, zb_1, q10, h0, q, g185_5, g185_10]
theorem m186_1 (h : ShM σ b) {v w : Int32} (hx : v < nQ 0) : DoM 186 [.ref b, .int v, .int w] (sB 7 σ b d) = some (.inl (some (.int (nQ 0))), sB 7 σ b (thF d 1)) := by
  have h0 := h.2.1
  refine (g186_0).trans ?_
  simp (disch := omega) only [eq_true hx, aOk, eq_self, tk_sB, pr_sB, tk_wr, pr_wr, nQ_nat, nQ_neg, nQ_add, nQ_mul, nQ_lt, leF, ltT, ltF, rd_sB, rd_sB0, wr_sB, wr_sB0, cn_l, cn_r, Option.toList, List.cons_append, List.nil_append, if_true, if_false, true_and, and_true, or_false, false_or, true_or, or_true, not_false_eq_true, not_true_eq_false, and_false, false_and, zb_0, zb_1, q10, h0, m107 h, g186_15, g186_23, g186_26, g186_61]
theorem m186_2 (h : ShM σ b) {v w : Int32} (hx : ¬ v < nQ 0) (hy : ¬ inP w (nQ 0) (nQ 3)) : DoM 186 [.ref b, .int v, .int w] (sB 7 σ b d) = some (.inl (some (.int (nQ 0))), sB 7 σ b (thF d 2)) := by
  have h0 := h.2.1
  refine (g186_0).trans ?_
  simp (disch := omega) only [m106, if_z, eq_false hx, eq_false hy, aOk, eq_self, tk_sB, pr_sB, tk_wr, pr_wr, nQ_nat, nQ_neg, nQ_add, nQ_mul, nQ_lt, leF, ltT, ltF, rd_sB, rd_sB0, wr_sB, wr_sB0, cn_l, cn_r, Option.toList, List.cons_append, List.nil_append, if_true, if_false, true_and, and_true, or_false, false_or, true_or, or_true, not_false_eq_true, not_true_eq_false, and_false, false_and, zb_0, zb_1, q10, h0, q20, m107 h, g186_15, g186_23, g186_26, g186_61]
theorem m186_0 (h : ShM σ b) {e : Nat} (he : d 1 308 = nQ e) (h12 : e ≤ 12) {v : Int32} (hx : ¬ v < nQ 0) {w : Nat} (hw : w < 4) : DoM 186 [.ref b, .int v, .int (nQ w)] (sB 7 σ b d) = some (.inl (some (.int (if v < nQ e then d 1 (309 + 4 * v.toNatClampNeg + w) else -1))), sB 7 σ b (thF d 0)) := by
  obtain ⟨h8, h0, ⟨p1, p2, p3, p4, p5, p6⟩, t1, t2, t3, t4, t5, t6⟩ := id h
  have hy : inP (nQ w) (nQ 0) (nQ 3) = True := eq_true (in_Q (by omega) (by decide))
  refine (g186_0).trans ?_
  by_cases c1 : v < nQ e
  · obtain ⟨i, hi, rfl⟩ : ∃ i, i < e ∧ v = nQ i := by
      have h1 : (0 : Int) ≤ v.toInt := by
        have : ¬ v.toInt < (nQ 0).toInt := fun z => hx (Int32.lt_iff_toInt_lt.mpr z)
        rw [nQ_int (by decide)] at this
        omega
      have h2 := Int32.lt_iff_toInt_lt.mp c1
      rw [nQ_int (by omega)] at h2
      refine ⟨v.toInt.toNat, by omega, ?_⟩
      apply Int32.toInt_inj.mp
      rw [nQ_int (by omega)]
      omega
    have e2 := eq_true c1
    simp (disch := omega) only [m106, if_z, eq_false hx, hy, aOk, eq_self, tk_sB, pr_sB, tk_wr, pr_wr, nQ_nat, nQ_neg, nQ_add, nQ_mul, nQ_lt, leF, ltT, ltF, rd_sB, rd_sB0, wr_sB, wr_sB0, cn_l, cn_r, Option.toList, List.cons_append, List.nil_append, if_true, if_false, true_and, and_true, or_false, false_or, true_or, or_true, not_false_eq_true, not_true_eq_false, and_false, false_and, zb_0, zb_1, q10, h0, m107 h, p1, t1, rX_n, he, g186_15, g186_23, g186_26, g186_61]
  · have e2 := eq_false c1
    simp (disch := omega) only [m106, if_z, eq_false hx, hy, aOk, eq_self, tk_sB, pr_sB, tk_wr, pr_wr, nQ_nat, nQ_neg, nQ_add, nQ_mul, nQ_lt, leF, ltT, ltF, rd_sB, rd_sB0, wr_sB, wr_sB0, cn_l, cn_r, Option.toList, List.cons_append, List.nil_append, if_true, if_false, true_and, and_true, or_false, false_or, true_or, or_true, not_false_eq_true, not_true_eq_false, and_false, false_and, zb_0, zb_1, q10, h0, m107 h, p1, t1, rX_n, he, e2, g186_15, g186_23, g186_26, g186_61]
end Ml
