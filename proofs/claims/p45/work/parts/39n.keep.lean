/-! The face's arguments, and the saved states. -/
theorem cn_n (f : Option Value → Mem → Option OutM) (g : Nat → Mem → Option OutM) : cnM none f g = none := rfl
theorem ltQ_s (v : Int32) {N : Nat} (hN : N < 2147483646) : (v < nQ (N + 1)) = ¬ nQ N < v := by
  rw [Int32.lt_iff_toInt_lt, Int32.lt_iff_toInt_lt, nQ_int (by omega), nQ_int (by omega)]
  exact propext ⟨fun h => by omega, fun h => by omega⟩
theorem c87 {σ : Mem} (v : Int32) : DoM 87 [.int v] σ = if inP v (nQ 0) (nQ 5) then some (.inl none, σ) else none := by
  refine (g87_0).trans ?_
  by_cases h1 : v < nQ 0 <;> by_cases h2 : nQ 5 < v <;> simp only [inP, ltQ_s v (N := 5) (by decide), h1, h2, aOk, eq_self, tk_sB, pr_sB, tk_wr, pr_wr, nQ_nat, nQ_neg, nQ_add, nQ_mul, nQ_lt, leF, ltT, ltF, rd_sB, rd_sB0, wr_sB, wr_sB0, cn_l, cn_r, Option.toList, List.cons_append, List.nil_append, if_true, if_false, true_and, and_true, or_false, false_or, true_or, or_true, not_false_eq_true, not_true_eq_false, and_false, false_and, zb_0, zb_1, q10]
theorem c88 {σ : Mem} (v : Int32) : DoM 88 [.int v] σ = if inP v (nQ 0) (nQ 2) then some (.inl none, σ) else none := by
  refine (g88_0).trans ?_
  by_cases h1 : v < nQ 0 <;> by_cases h2 : nQ 2 < v <;> simp only [inP, ltQ_s v (N := 2) (by decide), h1, h2, aOk, eq_self, tk_sB, pr_sB, tk_wr, pr_wr, nQ_nat, nQ_neg, nQ_add, nQ_mul, nQ_lt, leF, ltT, ltF, rd_sB, rd_sB0, wr_sB, wr_sB0, cn_l, cn_r, Option.toList, List.cons_append, List.nil_append, if_true, if_false, true_and, and_true, or_false, false_or, true_or, or_true, not_false_eq_true, not_true_eq_false, and_false, false_and, zb_0, zb_1, q10]
theorem c89 {σ : Mem} (v : Int32) : DoM 89 [.int v] σ = if inP v (nQ 0) (nQ 8) then some (.inl none, σ) else none := by
  refine (g89_0).trans ?_
  by_cases h1 : v < nQ 0 <;> by_cases h2 : nQ 8 < v <;> simp only [inP, ltQ_s v (N := 8) (by decide), h1, h2, aOk, eq_self, tk_sB, pr_sB, tk_wr, pr_wr, nQ_nat, nQ_neg, nQ_add, nQ_mul, nQ_lt, leF, ltT, ltF, rd_sB, rd_sB0, wr_sB, wr_sB0, cn_l, cn_r, Option.toList, List.cons_append, List.nil_append, if_true, if_false, true_and, and_true, or_false, false_or, true_or, or_true, not_false_eq_true, not_true_eq_false, and_false, false_and, zb_0, zb_1, q10]
theorem c90 {σ : Mem} (v : Int32) : DoM 90 [.int v] σ = if inP v (nQ 0) (nQ 1) then some (.inl none, σ) else none := by
  refine (g90_0).trans ?_
  by_cases h1 : v < nQ 0 <;> by_cases h2 : nQ 1 < v <;> simp only [inP, ltQ_s v (N := 1) (by decide), h1, h2, aOk, eq_self, tk_sB, pr_sB, tk_wr, pr_wr, nQ_nat, nQ_neg, nQ_add, nQ_mul, nQ_lt, leF, ltT, ltF, rd_sB, rd_sB0, wr_sB, wr_sB0, cn_l, cn_r, Option.toList, List.cons_append, List.nil_append, if_true, if_false, true_and, and_true, or_false, false_or, true_or, or_true, not_false_eq_true, not_true_eq_false, and_false, false_and, zb_0, zb_1, q10]
theorem c92 {σ : Mem} (v : Int32) : DoM 92 [.int v] σ = if inP v (nQ 0) (nQ 9) then some (.inl none, σ) else none := by
  refine (g92_0).trans ?_
  by_cases h1 : v < nQ 0 <;> by_cases h2 : nQ 9 < v <;> simp only [inP, ltQ_s v (N := 9) (by decide), h1, h2, aOk, eq_self, tk_sB, pr_sB, tk_wr, pr_wr, nQ_nat, nQ_neg, nQ_add, nQ_mul, nQ_lt, leF, ltT, ltF, rd_sB, rd_sB0, wr_sB, wr_sB0, cn_l, cn_r, Option.toList, List.cons_append, List.nil_append, if_true, if_false, true_and, and_true, or_false, false_or, true_or, or_true, not_false_eq_true, not_true_eq_false, and_false, false_and, zb_0, zb_1, q10]
theorem c96 {σ : Mem} (v : Int32) : DoM 96 [.int v] σ = if inP v (nQ 0) (nQ 1) then some (.inl none, σ) else none := by
  refine (g96_0).trans ?_
  by_cases h1 : v < nQ 0 <;> by_cases h2 : nQ 1 < v <;> simp only [inP, ltQ_s v (N := 1) (by decide), h1, h2, aOk, eq_self, tk_sB, pr_sB, tk_wr, pr_wr, nQ_nat, nQ_neg, nQ_add, nQ_mul, nQ_lt, leF, ltT, ltF, rd_sB, rd_sB0, wr_sB, wr_sB0, cn_l, cn_r, Option.toList, List.cons_append, List.nil_append, if_true, if_false, true_and, and_true, or_false, false_or, true_or, or_true, not_false_eq_true, not_true_eq_false, and_false, false_and, zb_0, zb_1, q10]
theorem c94 {σ : Mem} (v : Int32) : DoM 94 [.int v] σ = if inP v (nQ 0) (nQ 5000) then some (.inl none, σ) else none := by
  refine (g94_0).trans ?_
  by_cases h1 : v < nQ 0 <;> by_cases h2 : nQ 5000 < v <;> simp only [inP, h1, h2, aOk, eq_self, tk_sB, pr_sB, tk_wr, pr_wr, nQ_nat, nQ_neg, nQ_add, nQ_mul, nQ_lt, leF, ltT, ltF, rd_sB, rd_sB0, wr_sB, wr_sB0, cn_l, cn_r, Option.toList, List.cons_append, List.nil_append, if_true, if_false, true_and, and_true, or_false, false_or, true_or, or_true, not_false_eq_true, not_true_eq_false, and_false, false_and, zb_0, zb_1, q10]
theorem c95 {σ : Mem} (s z : Int32) : DoM 95 [.int s, .int z] σ = if arP s z then some (.inl none, σ) else none := by
  refine (g95_0).trans ?_
  by_cases h1 : s < nQ 0 <;> by_cases h2 : nQ 100000 < s <;> by_cases h3 : z < nQ 0 <;> by_cases h4 : nQ 100000 < z <;> simp only [arP, inP, h1, h2, h3, h4, aOk, eq_self, tk_sB, pr_sB, tk_wr, pr_wr, nQ_nat, nQ_neg, nQ_add, nQ_mul, nQ_lt, leF, ltT, ltF, rd_sB, rd_sB0, wr_sB, wr_sB0, cn_l, cn_r, Option.toList, List.cons_append, List.nil_append, if_true, if_false, true_and, and_true, or_false, false_or, true_or, or_true, not_false_eq_true, not_true_eq_false, and_false, false_and, zb_0, zb_1, q10, g95_57]
  by_cases h5 : s = nQ 0
  · simp only [if_pos h5, h5, aOk, eq_self, tk_sB, pr_sB, tk_wr, pr_wr, nQ_nat, nQ_neg, nQ_add, nQ_mul, nQ_lt, leF, ltT, ltF, rd_sB, rd_sB0, wr_sB, wr_sB0, cn_l, cn_r, Option.toList, List.cons_append, List.nil_append, if_true, if_false, true_and, and_true, or_false, false_or, true_or, or_true, not_false_eq_true, not_true_eq_false, and_false, false_and, zb_0, zb_1, q10]
  · by_cases h6 : z = nQ 0
    · simp only [if_neg h5, if_pos h6, h6, aOk, eq_self, tk_sB, pr_sB, tk_wr, pr_wr, nQ_nat, nQ_neg, nQ_add, nQ_mul, nQ_lt, leF, ltT, ltF, rd_sB, rd_sB0, wr_sB, wr_sB0, cn_l, cn_r, Option.toList, List.cons_append, List.nil_append, if_true, if_false, true_and, and_true, or_false, false_or, true_or, or_true, not_false_eq_true, not_true_eq_false, and_false, false_and, zb_0, zb_1, q10]
    · by_cases h7 : z < s <;> simp only [h5, h6, h7, aOk, eq_self, tk_sB, pr_sB, tk_wr, pr_wr, nQ_nat, nQ_neg, nQ_add, nQ_mul, nQ_lt, leF, ltT, ltF, rd_sB, rd_sB0, wr_sB, wr_sB0, cn_l, cn_r, Option.toList, List.cons_append, List.nil_append, if_true, if_false, true_and, and_true, or_false, false_or, true_or, or_true, not_false_eq_true, not_true_eq_false, and_false, false_and, zb_0, zb_1, q10]
theorem c91 {σ : Mem} (v w : Int32) : DoM 91 [.int v, .int w] σ = if inP v (nQ 0) (nQ 8) ∧ inP w (nQ 0) (nQ 1) then some (.inl (some (.int (nQ 2 * v + w))), σ) else none := by
  refine (g91_0).trans ?_
  have e : DoM 98 [.int v, .int w] σ = some (.inl (some (.int (nQ 2 * v + w))), σ) := (g98_0).trans (by rw [Int32.mul_comm])
  rcases Classical.propComplete (inP v (nQ 0) (nQ 8)) with e1 | e1 <;> rcases Classical.propComplete (inP w (nQ 0) (nQ 1)) with e2 | e2 <;> simp only [c89, c90, e, e1, e2, cn_n, aOk, eq_self, tk_sB, pr_sB, tk_wr, pr_wr, nQ_nat, nQ_neg, nQ_add, nQ_mul, nQ_lt, leF, ltT, ltF, rd_sB, rd_sB0, wr_sB, wr_sB0, cn_l, cn_r, Option.toList, List.cons_append, List.nil_append, if_true, if_false, true_and, and_true, or_false, false_or, true_or, or_true, not_false_eq_true, not_true_eq_false, and_false, false_and, zb_0, zb_1, q10, g91_4, g91_8, g91_13]
theorem c93 {σ : Mem} (v w : Int32) : DoM 93 [.int v, .int w] σ = if inP v (nQ 0) (nQ 9) ∧ inP w (nQ 0) (nQ 99) then some (.inl (some (.int (nQ 100 * v + w))), σ) else none := by
  refine (g93_0).trans ?_
  rcases Classical.propComplete (inP v (nQ 0) (nQ 9)) with e1 | e1
  · simp only [c92, e1, aOk, eq_self, tk_sB, pr_sB, tk_wr, pr_wr, nQ_nat, nQ_neg, nQ_add, nQ_mul, nQ_lt, leF, ltT, ltF, rd_sB, rd_sB0, wr_sB, wr_sB0, cn_l, cn_r, Option.toList, List.cons_append, List.nil_append, if_true, if_false, true_and, and_true, or_false, false_or, true_or, or_true, not_false_eq_true, not_true_eq_false, and_false, false_and, zb_0, zb_1, q10, g93_4, ltQ_s w (N := 99) (by decide), c100]
    by_cases h1 : w < nQ 0 <;> by_cases h2 : nQ 99 < w <;> simp only [inP, h1, h2, aOk, eq_self, tk_sB, pr_sB, tk_wr, pr_wr, nQ_nat, nQ_neg, nQ_add, nQ_mul, nQ_lt, leF, ltT, ltF, rd_sB, rd_sB0, wr_sB, wr_sB0, cn_l, cn_r, Option.toList, List.cons_append, List.nil_append, if_true, if_false, true_and, and_true, or_false, false_or, true_or, or_true, not_false_eq_true, not_true_eq_false, and_false, false_and, zb_0, zb_1, q10, g93_30]
  · simp only [c92, e1, cn_n, aOk, eq_self, tk_sB, pr_sB, tk_wr, pr_wr, nQ_nat, nQ_neg, nQ_add, nQ_mul, nQ_lt, leF, ltT, ltF, rd_sB, rd_sB0, wr_sB, wr_sB0, cn_l, cn_r, Option.toList, List.cons_append, List.nil_append, if_true, if_false, true_and, and_true, or_false, false_or, true_or, or_true, not_false_eq_true, not_true_eq_false, and_false, false_and, zb_0, zb_1, q10]
/-- the world: what never changes of its shape -/
def WdX (τ : Mem) : Prop := (tkM τ 8 = (1, 4) ∧ prM τ 8 0 = 9 ∧ prM τ 8 1 = 26 ∧ prM τ 8 2 = 43 ∧ prM τ 8 4 = 146 ∧ prM τ 8 5 = 181 ∧ prM τ 8 6 = 182 ∧ prM τ 8 7 = 185) ∧
  (ShS τ 9 ∧ ShS τ 26 ∧ (∀ i, i < 6 → ShS τ (44 + 17 * i)) ∧ ∀ i, i < 2 → prM τ 146 i = 147 + 17 * i ∧ ShS τ (147 + 17 * i)) ∧
  (tkM τ 43 = (6, 6) ∧ tkM τ 146 = (6, 2) ∧ tkM τ 181 = (3, 2) ∧ tkM τ 182 = (1, 3) ∧ prM τ 182 0 = 183 ∧ prM τ 182 4 = 184 ∧ tkM τ 183 = (4, 100) ∧ tkM τ 184 = (2, 5) ∧ tkM τ 185 = (2, 60))
def PmR (τ : Mem) (π : Nat → Nat) : Prop := (∀ i, i < 6 → prM τ 43 i = 44 + 17 * π i ∧ π i < 6) ∧ ∀ i j, i < 6 → j < 6 → π i = π j → i = j
theorem SS_cg {τ τ' : Mem} {b : Nat} (h : ShS τ b) (h1 : tkM τ' = tkM τ) (h2 : ∀ v, b ≤ v → v < b + 17 → prM τ' v = prM τ v) : ShS τ' b := by
  unfold ShS
  rw [h1, h2 b (by omega) (by omega), h2 (b + 8) (by omega) (by omega), h2 (b + 13) (by omega) (by omega)]
  exact h
theorem Wd_cg {τ τ' : Mem} (h : WdX τ) (h1 : tkM τ' = tkM τ) (h2 : ∀ v, ¬ v = 43 → prM τ' v = prM τ v) : WdX τ' := by
  obtain ⟨a1, ⟨a2, a3, a4, a5⟩, a6⟩ := h
  refine ⟨?_, ⟨SS_cg a2 h1 (fun v _ _ => h2 v (by omega)), SS_cg a3 h1 (fun v _ _ => h2 v (by omega)), fun i hi => SS_cg (a4 i hi) h1 (fun v _ _ => h2 v (by omega)), fun i hi => ⟨?_, SS_cg (a5 i hi).2 h1 (fun v _ _ => h2 v (by omega))⟩⟩, ?_⟩
  · rw [h1, h2 8 (by decide)]
    exact a1
  · rw [h2 146 (by decide)]
    exact (a5 i hi).1
  · rw [h1, h2 182 (by decide)]
    exact a6
def pwM (τ : Mem) (P : Nat → Nat) : Mem := (τ.1, τ.2.1, τ.2.2.1, fun a i => if a = 43 then P i else τ.2.2.2 a i)
theorem pw_43 (τ : Mem) (P : Nat → Nat) (i : Nat) : prM (pwM τ P) 43 i = P i := by
  show (if (43 : Nat) = 43 then P i else τ.2.2.2 43 i) = P i
  exact if_pos rfl
theorem pw_n (τ : Mem) (P : Nat → Nat) {v : Nat} (h : ¬ v = 43) : prM (pwM τ P) v = prM τ v := funext fun i => if_neg h
theorem pw_i (τ : Mem) : pwM τ (prM τ 43) = τ := by
  show (τ.1, τ.2.1, τ.2.2.1, fun a i => if a = 43 then τ.2.2.2 43 i else τ.2.2.2 a i) = τ
  have e : (fun a i => if a = 43 then τ.2.2.2 43 i else τ.2.2.2 a i) = τ.2.2.2 := by
    funext a i
    split
    · next c => rw [c]
    · rfl
  rw [e]
theorem pw_w (τ : Mem) (P : Nat → Nat) (j x : Nat) : wpM (pwM τ P) 43 j x = pwM τ (fun i => if i = j then x else P i) := by
  show (τ.1, τ.2.1, τ.2.2.1, fun a i => if a = 43 ∧ i = j then x else if a = 43 then P i else τ.2.2.2 a i) = (τ.1, τ.2.1, τ.2.2.1, fun a i => if a = 43 then (if i = j then x else P i) else τ.2.2.2 a i)
  congr 3
  funext a i
  by_cases h1 : a = 43
  · simp only [h1, if_true, true_and]
  · simp only [h1, if_false, false_and]
theorem tk_pw (τ : Mem) (P : Nat → Nat) : tkM (pwM τ P) = tkM τ := rfl
theorem rd_pw (τ : Mem) (P : Nat → Nat) : rdM (pwM τ P) = rdM τ := rfl
abbrev cuN (c : Nat) : Nat := if c = 6 then 5 else c
abbrev csN (c : Nat) : Nat := if c = 6 then 6 else c + 1
theorem c101 {τ : Mem} (hW : WdX τ) {π : Nat → Nat} (hP : PmR τ π) {c : Nat} (hc : rdM τ 8 3 = nQ c) (h6 : c ≤ 6) (hx : ∀ u, u < 6 → rdM τ 11 u = nQ 0 ∨ rdM τ 11 u = nQ 1) : ∃ τ' π', DoM 101 [.ref 8] τ = some (.inl none, τ') ∧ WdX τ' ∧ PmR τ' π' ∧ tkM τ' = tkM τ ∧ nxM τ' = nxM τ ∧ rdM τ' 8 3 = nQ (csN c) ∧ (∀ v, v < 8 ∨ (9 ≤ v ∧ v < 44) ∨ 146 ≤ v → rdM τ' v = rdM τ v) ∧ EqS (rw_ τ 9) (rw_ τ' (44 + 17 * π' (cuN c))) ∧ ∀ i, i < cuN c → ∀ u, u < 17 → rw_ τ' (44 + 17 * π' i) u = rw_ τ (44 + 17 * π (if c = 6 then i + 1 else i)) u := by
  obtain ⟨⟨w1, w2, w3, w4, w5, w6, w7, w8⟩, ⟨w9, w10, w11, w12⟩, ⟨x1, x2, x3, x4, x5, x6, x7, x8, x9⟩⟩ := id hW
  obtain ⟨hP1, hP2⟩ := id hP
  by_cases h5 : c < 6
  · obtain ⟨e1, e2⟩ := hP1 c h5
    have hs := w11 (π c) e2
    obtain ⟨d', y1, y2⟩ := c15 (d := rw_ τ (44 + 17 * π c)) hs w9 (by omega) hx
    rw [sB_rw] at y1
    have u1 : cuN c = c := if_neg (by omega)
    have u2 : csN c = c + 1 := if_neg (by omega)
    have k0 := hs.2.1.1
    refine ⟨wrM (sB 17 τ (44 + 17 * π c) d') 8 3 (nQ (c + 1)), π, ?_, hW, hP, rfl, rfl, ?_, fun v hv => ?_, ?_, fun i hi u hu => ?_⟩
    · refine (g101_0).trans ?_
      have z1 : rdM (sB 17 τ (44 + 17 * π c) d') 8 3 = nQ c := (rd_out (by omega) 3).trans hc
      simp (disch := omega) only [aOk, tk_sB, pr_sB, w1, w4, w2, x1, hc, nQ_lt, h5, nQ_nat, nQ_neg, leF, e1, k0, y1, z1, nQ_add, true_and, if_true, or_false, false_or, not_false_eq_true, cn_l, Option.toList, List.nil_append, g101_25, g101_35]
    · rw [u2]
      show (if (8 : Nat) = 8 ∧ (3 : Nat) = 3 then nQ (c + 1) else (sB 17 τ (44 + 17 * π c) d').2.2.1 8 3) = nQ (c + 1)
      exact if_pos ⟨rfl, rfl⟩
    · funext j
      show (if v = 8 ∧ j = 3 then nQ (c + 1) else rdM (sB 17 τ (44 + 17 * π c) d') v j) = rdM τ v j
      rw [if_neg (by omega), rd_out (by omega)]
    · rw [u1]
      have : ∀ u, u < 17 → rw_ (wrM (sB 17 τ (44 + 17 * π c) d') 8 3 (nQ (c + 1))) (44 + 17 * π c) u = d' u := fun u hu => by
        funext j
        show (if 44 + 17 * π c + u = 8 ∧ j = 3 then nQ (c + 1) else rdM (sB 17 τ (44 + 17 * π c) d') (44 + 17 * π c + u) j) = d' u j
        rw [if_neg (by omega), rd_sB hu]
      exact EqS_d y2 this
    · rw [u1] at hi
      rw [if_neg (by omega)]
      obtain ⟨e3, e4⟩ := hP1 i (by omega)
      have hne : ¬ π i = π c := fun z => by have := hP2 i c (by omega) h5 z; omega
      funext j
      show (if 44 + 17 * π i + u = 8 ∧ j = 3 then nQ (c + 1) else rdM (sB 17 τ (44 + 17 * π c) d') (44 + 17 * π i + u) j) = rdM τ (44 + 17 * π i + u) j
      rw [if_neg (by omega), rd_out (by omega)]
  · obtain rfl : c = 6 := by omega
    obtain ⟨e1, e2⟩ := hP1 0 (by decide)
    have L : ∀ (m i : Nat) (P : Nat → Nat), i + m = 6 → 1 ≤ i → (∀ k, k < 6 → tkM τ (P k) = (1, 2)) → RuM 101 (45, [some (.ref 8), some (.ref (44 + 17 * π 0)), some (.int (nQ i))], [], 0, 0) (pwM τ P) = RuM 101 (45, [some (.ref 8), some (.ref (44 + 17 * π 0)), some (.int (nQ 6))], [], 0, 0) (pwM τ (fun k => if i - 1 ≤ k ∧ k < 5 then P (k + 1) else P k)) := by
      intro m
      induction m with
      | zero =>
        intro i P e h1 hk
        obtain rfl : i = 6 := e
        have : (fun k => if 6 - 1 ≤ k ∧ k < 5 then P (k + 1) else P k) = P := funext fun k => if_neg (by omega)
        rw [this]
      | succ m ih =>
        intro i P e h1 hk
        have hi : i < 6 := by omega
        have ih' := ih (i + 1) (fun k => if k = i - 1 then P i else P k) (by omega) (by omega) (fun k hk' => by
          show tkM τ (if k = i - 1 then P i else P k) = (1, 2)
          split
          · exact hk i hi
          · exact hk k hk')
        have e3 : (fun k => if i + 1 - 1 ≤ k ∧ k < 5 then (fun k => if k = i - 1 then P i else P k) (k + 1) else (fun k => if k = i - 1 then P i else P k) k) = fun k => if i - 1 ≤ k ∧ k < 5 then P (k + 1) else P k := by
          funext k
          dsimp only
          by_cases c1 : i - 1 ≤ k ∧ k < 5
          · rw [if_pos c1]
            by_cases c2 : i + 1 - 1 ≤ k ∧ k < 5
            · rw [if_pos c2, if_neg (by omega)]
            · rw [if_neg c2, if_pos (by omega)]
              congr 1
              omega
          · rw [if_neg c1, if_neg (by omega), if_neg (by omega)]
        rw [e3] at ih'
        rw [g101_45]
        have z1 : tkM τ (P i) = (1, 2) := hk i hi
        have z2 : prM (pwM τ P) 8 = prM τ 8 := pw_n τ P (by decide)
        simp (disch := omega) only [aOk, tk_pw, z2, w1, w4, x1, hi, nQ_lt, nQ_nat, nQ_neg, nQ_sub, nQ_add, leF, pw_43, z1, pw_w, true_and, and_true, if_true, or_false, false_or, not_false_eq_true, g101_65]
        exact ih'
    have L0 := L 5 1 (prM τ 43) rfl (Nat.le_refl 1) (fun k hk => by
      obtain ⟨z1, z2⟩ := hP1 k hk
      rw [z1]
      exact (w11 (π k) z2).2.1.1)
    rw [pw_i] at L0
    have hs := w11 (π 0) e2
    have k0 := hs.2.1.1
    have hW' : WdX (pwM τ (fun k => if k = 5 then 44 + 17 * π 0 else if 1 - 1 ≤ k ∧ k < 5 then prM τ 43 (k + 1) else prM τ 43 k)) := Wd_cg hW rfl (fun v hv => pw_n _ _ hv)
    obtain ⟨d', y1, y2⟩ := c15 (d := rw_ τ (44 + 17 * π 0)) (hW'.2.1.2.2.1 (π 0) e2) hW'.2.1.1 (by omega) hx
    rw [show rw_ τ (44 + 17 * π 0) = rw_ (pwM τ (fun k => if k = 5 then 44 + 17 * π 0 else if 1 - 1 ≤ k ∧ k < 5 then prM τ 43 (k + 1) else prM τ 43 k)) (44 + 17 * π 0) from rfl, sB_rw] at y1
    refine ⟨sB 17 (pwM τ (fun k => if k = 5 then 44 + 17 * π 0 else if 1 - 1 ≤ k ∧ k < 5 then prM τ 43 (k + 1) else prM τ 43 k)) (44 + 17 * π 0) d', fun i => if i = 5 then π 0 else π (i + 1), ?_, hW', ⟨fun i hi => ?_, fun i j hi hj e => ?_⟩, rfl, rfl, ?_, fun v hv => ?_, ?_, fun i hi u hu => ?_⟩
    · have z2 : ∀ P, prM (pwM τ P) 8 = prM τ 8 := fun P => pw_n τ P (by decide)
      have X : DoM 101 [.ref 8] τ = RuM 101 (45, [some (.ref 8), some (.ref (44 + 17 * π 0)), some (.int (nQ 1))], [], 0, 0) τ := by
        refine (g101_0).trans ?_
        simp (disch := omega) only [aOk, w1, w4, x1, hc, nQ_lt, nQ_nat, nQ_neg, leF, e1, ltF, if_false, true_and, if_true, or_false, false_or, not_false_eq_true]
      rw [X, L0, g101_45]
      simp (disch := omega) only [aOk, tk_pw, z2, w1, w2, w4, x1, nQ_lt, nQ_nat, nQ_neg, leF, k0, pw_w, ltF, if_false, true_and, and_true, if_true, or_false, false_or, not_false_eq_true, y1, cn_l, Option.toList, List.nil_append, g101_78, g101_86]
    · by_cases c1 : i = 5
      · refine ⟨(pw_43 τ (fun k => if k = 5 then 44 + 17 * π 0 else if 1 - 1 ≤ k ∧ k < 5 then prM τ 43 (k + 1) else prM τ 43 k) i).trans ?_, ?_⟩
        · simp only [c1, if_true]
        · simp only [c1, if_true]
          exact e2
      · refine ⟨(pw_43 τ (fun k => if k = 5 then 44 + 17 * π 0 else if 1 - 1 ≤ k ∧ k < 5 then prM τ 43 (k + 1) else prM τ 43 k) i).trans ?_, ?_⟩
        · simp only [c1, if_false]
          rw [if_pos (by omega)]
          exact (hP1 (i + 1) (by omega)).1
        · simp only [c1, if_false]
          exact (hP1 (i + 1) (by omega)).2
    · dsimp only at e
      by_cases c1 : i = 5 <;> by_cases c2 : j = 5 <;> simp only [c1, c2, if_true, if_false] at e
      · omega
      · have := hP2 _ _ (by decide) (by omega) e; omega
      · have := hP2 _ _ (by omega) (by decide) e; omega
      · have := hP2 _ _ (by omega) (by omega) e; omega
    · rw [rd_out (by omega)]
      exact hc
    · funext j
      rw [rd_out (by omega)]
      rfl
    · refine EqS_d y2 (fun u hu => ?_)
      funext j
      exact rd_sB hu j
    · have hi : i < 5 := hi
      obtain ⟨e3, e4⟩ := hP1 (i + 1) (by omega)
      have hne : ¬ π (i + 1) = π 0 := fun z => by have := hP2 (i + 1) 0 (by omega) (by decide) z; omega
      funext j
      show rdM (sB 17 _ (44 + 17 * π 0) d') (44 + 17 * (if i = 5 then π 0 else π (i + 1)) + u) j = rdM τ (44 + 17 * π (i + 1) + u) j
      rw [if_neg (by omega), rd_out (by omega)]
      rfl
