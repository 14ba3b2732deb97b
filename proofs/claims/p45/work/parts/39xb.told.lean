/-! The digests of a state, and the sum of refusals. -/
def quF (f : Nat → Int32) (n : Nat) : Int64 := quO (f 0) (fun k => usF f (nQ (k / 2)) (k - k / 2 * 2) n) (fun k => f (281 + k)) (fun k => f (245 + k)) (fun k => f (263 + k)) (fun k => fiF f (nQ 100 * nQ (k / 10) + nQ (k - k / 10 * 10)) 3 n) (fun k => fiF f (nQ 100 * nQ (k / 10) + nQ (k - k / 10 * 10)) 1 n) (fun k => fiF f (nQ 100 * nQ (k / 10) + nQ (k - k / 10 * 10)) 2 n) (fun u => if frF f u then nQ 1 else nQ 0) (f 4) (f 1) (f 2)
def evF (f : Nat → Int32) (e i p : Nat) : Int32 := if nQ i < nQ e then f (309 + 4 * (nQ i).toNatClampNeg + p) else -1
def tdF (f : Nat → Int32) (n e : Nat) : Int64 := q3O (fun a => f (299 + a)) (q3O (fun k => evF f e (k / 4) (k - k / 4 * 4)) (kQL * quF f n + (f 308).toInt64) 48) 9
def rfS (f : Nat → Int32) : Nat → Int32
  | 0 => nQ 0
  | m + 1 => rfS f m + f (299 + m)
theorem fi_cg {f f' : Nat → Int32} {key : Int32} {w : Nat} : ∀ n, (∀ i, i < n → f' (5 + 4 * i) = f (5 + 4 * i) ∧ f' (5 + 4 * i + w) = f (5 + 4 * i + w)) → fiF f' key w n = fiF f key w n
  | 0, _ => rfl
  | n + 1, h => by
    unfold fiF
    rw [fi_cg n (fun i hi => h i (Nat.lt_succ_of_lt hi)), (h n (Nat.lt_succ_self n)).1, (h n (Nat.lt_succ_self n)).2]
theorem qu_cg {f f' : Nat → Int32} {n : Nat} (h60 : n ≤ 60) (h : ∀ i, i < 299 → f' i = f i) : quF f' n = quF f n := by
  unfold quF quO
  have hf : ∀ key w, w < 4 → fiF f' key w n = fiF f key w n := fun key w hw => fi_cg n (fun i hi => ⟨h _ (by omega), h _ (by omega)⟩)
  have hu : ∀ a r, usF f' a r n = usF f a r n := fun a r => us_c2 h60 a r (fun i _ h2 => h i (by omega))
  rw [h 0 (by decide), h 4 (by decide), h 1 (by decide), h 2 (by decide), q1_cg 18 (us := fun k => usF f (nQ (k / 2)) (k - k / 2 * 2) n) (st := fun k => f (281 + k)) (so := fun k => f (245 + k)) (ha := fun k => f (263 + k)) (fun k hk => ⟨hu _ _, h _ (by omega), h _ (by omega), h _ (by omega)⟩), q2_cg 20 (sz := fun k => fiF f (nQ 100 * nQ (k / 10) + nQ (k - k / 10 * 10)) 3 n) (ow := fun k => fiF f (nQ 100 * nQ (k / 10) + nQ (k - k / 10 * 10)) 1 n) (gr := fun k => fiF f (nQ 100 * nQ (k / 10) + nQ (k - k / 10 * 10)) 2 n) (fun k hk => ⟨hf _ 3 (by decide), hf _ 1 (by decide), hf _ 2 (by decide)⟩), q3_cg 6 (ex := fun u => if frF f u then nQ 1 else nQ 0) (fun k hk => by
    unfold frF
    rw [h 3 (by decide)])]
section Tk
variable {τ : Mem} {f : Nat → Int32} {H : Nat → Nat → Int32} {c n : Nat}
theorem kx {k : Nat} (hk : k < 18) (b : Nat) : k / 2 ≤ 8 ∧ k - k / 2 * 2 ≤ 1 ∧ b + 2 * (k / 2) + (k - k / 2 * 2) = b + k := by omega
theorem k61 (h : RV τ f H c) (hn : f 4 = nQ n) (h60 : n ≤ 60) {k : Nat} (hk : k < 18) : DoM 61 [.ref 8, .int (nQ (k / 2)), .int (nQ (k - k / 2 * 2))] τ = some (.inl (some (.int (usF f (nQ (k / 2)) (k - k / 2 * 2) n))), τ) := q61 h hn h60 (kx hk 0).1 (kx hk 0).2.1
theorem k62 (h : RV τ f H c) (hn : f 4 = nQ n) (h60 : n ≤ 60) {k : Nat} (hk : k < 18) : DoM 62 [.ref 8, .int (nQ (k / 2)), .int (nQ (k - k / 2 * 2))] τ = some (.inl (some (.int (usF f (nQ (k / 2)) (k - k / 2 * 2) n))), τ) := q62 h hn h60 (kx hk 0).1 (kx hk 0).2.1
theorem k63 (h : RV τ f H c) (hn : f 4 = nQ n) (h60 : n ≤ 60) {k : Nat} (hk : k < 18) : DoM 63 [.ref 8, .int (nQ (k / 2)), .int (nQ (k - k / 2 * 2))] τ = some (.inl (some (.int (f (245 + k)))), τ) := by
  have := q63 h hn h60 (kx hk 0).1 (kx hk 0).2.1
  rwa [(kx hk 245).2.2] at this
theorem k64 (h : RV τ f H c) (hn : f 4 = nQ n) (h60 : n ≤ 60) {k : Nat} (hk : k < 18) : DoM 64 [.ref 8, .int (nQ (k / 2)), .int (nQ (k - k / 2 * 2))] τ = some (.inl (some (.int (f (263 + k)))), τ) := by
  have := q64 h hn h60 (kx hk 0).1 (kx hk 0).2.1
  rwa [(kx hk 263).2.2] at this
theorem k65 (h : RV τ f H c) (hn : f 4 = nQ n) (h60 : n ≤ 60) {k : Nat} (hk : k < 18) : DoM 65 [.ref 8, .int (nQ (k / 2)), .int (nQ (k - k / 2 * 2))] τ = some (.inl (some (.int (f (281 + k)))), τ) := by
  have := q65 h hn h60 (kx hk 0).1 (kx hk 0).2.1
  rwa [(kx hk 281).2.2] at this
theorem k66 (h : RV τ f H c) (hn : f 4 = nQ n) (h60 : n ≤ 60) {k : Nat} (hk : k < 18) : DoM 66 [.ref 8, .int (nQ (k / 2)), .int (nQ (k - k / 2 * 2))] τ = some (.inl (some (.int (glF f (k / 2) (k - k / 2 * 2)))), τ) := q66 h hn h60 (kx hk 0).1 (kx hk 0).2.1
theorem k67 (h : RV τ f H c) (hn : f 4 = nQ n) (h60 : n ≤ 60) {k : Nat} (hk : k < 18) : DoM 67 [.ref 8, .int (nQ (k / 2)), .int (nQ (k - k / 2 * 2))] τ = some (.inl (some (.int (avF f n (k / 2) (k - k / 2 * 2)))), τ) := q67 h hn h60 (kx hk 0).1 (kx hk 0).2.1
theorem qu_c (h : RV τ f H c) (hn : f 4 = nQ n) (h60 : n ≤ 60) : DoM 106 [.ref 8] τ = some (.inl (some (.long (quF f n))), τ) := by
  have w1 : tkM τ 8 = (1, 4) := h.1.1.1.1
  have k20 : ∀ k, k < 20 → k / 10 ≤ 9 ∧ k - k / 10 * 10 ≤ 99 := fun k hk => by omega
  have L1 := qu_1 (τ := τ) w1 (fun k hk => k61 h hn h60 hk) (fun k hk => k65 h hn h60 hk) (fun k hk => k63 h hn h60 hk) (fun k hk => k64 h hn h60 hk) ((nQ 29).toInt64 + (f 0).toInt64) 18 0 rfl
  have L2 := qu_2 (τ := τ) w1 (fun k hk => q70 h hn h60 (k20 k hk).1 (k20 k hk).2) (fun k hk => q71 h hn h60 (k20 k hk).1 (k20 k hk).2) (fun k hk => q72 h hn h60 (k20 k hk).1 (k20 k hk).2) (q1O (fun k => usF f (nQ (k / 2)) (k - k / 2 * 2) n) (fun k => f (281 + k)) (fun k => f (245 + k)) (fun k => f (263 + k)) ((nQ 29).toInt64 + (f 0).toInt64) 18) 20 0 rfl
  have L3 := qu_3 (τ := τ) w1 (fun k hk => q80 h hn h60 (a := k) (by omega)) (fun k hk => by
    by_cases e : frF f k
    · exact Or.inr (if_pos e)
    · exact Or.inl (if_neg e)) (q73 h hn h60) (q79 h hn h60 (a := 0) (by decide)) (q79 h hn h60 (a := 1) (by decide)) (q2O (fun k => fiF f (nQ 100 * nQ (k / 10) + nQ (k - k / 10 * 10)) 3 n) (fun k => fiF f (nQ 100 * nQ (k / 10) + nQ (k - k / 10 * 10)) 1 n) (fun k => fiF f (nQ 100 * nQ (k / 10) + nQ (k - k / 10 * 10)) 2 n) (q1O (fun k => usF f (nQ (k / 2)) (k - k / 2 * 2) n) (fun k => f (281 + k)) (fun k => f (245 + k)) (fun k => f (263 + k)) ((nQ 29).toInt64 + (f 0).toInt64) 18) 20) 6 0 rfl
  have q := q78 h hn h60
  refine (g106_0).trans ?_
  simp only [w1, q, if_true, cn_l, Option.toList, List.cons_append, List.nil_append, g106_7]
  exact L1.trans (L2.trans L3)
theorem ev_ex (h : RV τ f H c) : ∃ e, f 308 = nQ e ∧ e ≤ 12 := by
  obtain ⟨_, _, ⟨n', a1, _, _⟩, _⟩ := h
  obtain ⟨q, e, _, he, _, _, f8, _⟩ := a1.2.2.2
  exact ⟨e, f8, he⟩
theorem td_c (h : RV τ f H c) (hn : f 4 = nQ n) (h60 : n ≤ 60) {e : Nat} (he : f 308 = nQ e) (h12 : e ≤ 12) : DoM 107 [.ref 8] τ = some (.inl (some (.long (tdF f n e))), τ) := by
  have w1 : tkM τ 8 = (1, 4) := h.1.1.1.1
  have L1 : ∀ (h0 : Int64) (m i : Nat), i + m = 48 → RuM 107 (17, [some (.ref 8), some (.long (q3O (fun k => evF f e (k / 4) (k - k / 4 * 4)) h0 i)), none, some (.int (nQ i))], [], 0, 0) τ = RuM 107 (49, [some (.ref 8), some (.long (q3O (fun k => evF f e (k / 4) (k - k / 4 * 4)) h0 48)), none, some (.int (nQ 0))], [], 0, 0) τ := by
    intro h0 m
    induction m with
    | zero =>
      intro i ee
      obtain rfl : i = 48 := ee
      rw [g107_17]
      simp (disch := omega) only [nQ_lt, Nat.lt_irrefl, if_false]
    | succ m ih =>
      intro i ee
      have hi : i < 48 := by omega
      have q : DoM 83 [.ref 8, .int (nQ (i / 4)), .int (nQ (i - i / 4 * 4))] τ = some (.inl (some (.int (evF f e (i / 4) (i - i / 4 * 4)))), τ) := q83 h hn h60 (v := i / 4) (p := i - i / 4 * 4) (by omega) (by omega) he h12
      rw [← ih (i + 1) (by omega), g107_17]
      simp (disch := omega) only [nQ_lt, hi, w1, nQ_div, nQ_mul, nQ_sub, q, cn_l, Option.toList, List.cons_append, List.nil_append, if_true, g107_38, nQ_add, q3O]
  have L2 : ∀ (h0 : Int64) (m i : Nat), i + m = 9 → RuM 107 (49, [some (.ref 8), some (.long (q3O (fun a => f (299 + a)) h0 i)), none, some (.int (nQ i))], [], 0, 0) τ = some (.inl (some (.long (q3O (fun a => f (299 + a)) h0 9))), τ) := by
    intro h0 m
    induction m with
    | zero =>
      intro i ee
      obtain rfl : i = 9 := ee
      rw [g107_49]
      simp (disch := omega) only [nQ_lt, Nat.lt_irrefl, if_false]
    | succ m ih =>
      intro i ee
      have hi : i < 9 := by omega
      have q := q68 h hn h60 (a := i) (by omega)
      rw [← ih (i + 1) (by omega), g107_49]
      simp (disch := omega) only [nQ_lt, hi, w1, q, cn_l, Option.toList, List.cons_append, List.nil_append, if_true, g107_65, nQ_add, q3O]
  have q := qu_c h hn h60
  have q4 := q84 h hn h60
  refine (g107_0).trans ?_
  simp only [w1, q, q4, if_true, cn_l, Option.toList, List.cons_append, List.nil_append, g107_7, g107_12]
  exact (L1 _ 48 0 rfl).trans (L2 _ 9 0 rfl)
theorem rs_c (h : RV τ f H c) (hn : f 4 = nQ n) (h60 : n ≤ 60) : DoM 108 [.ref 8] τ = some (.inl (some (.int (rfS f 9))), τ) := by
  have w1 : tkM τ 8 = (1, 4) := h.1.1.1.1
  have L : ∀ (m i : Nat), i + m = 9 → RuM 108 (4, [some (.ref 8), some (.int (rfS f i)), some (.int (nQ i))], [], 0, 0) τ = some (.inl (some (.int (rfS f 9))), τ) := by
    intro m
    induction m with
    | zero =>
      intro i ee
      obtain rfl : i = 9 := ee
      rw [g108_4]
      simp (disch := omega) only [nQ_lt, Nat.lt_irrefl, if_false]
    | succ m ih =>
      intro i ee
      have hi : i < 9 := by omega
      have q := q68 h hn h60 (a := i) (by omega)
      rw [← ih (i + 1) (by omega), g108_4]
      simp (disch := omega) only [nQ_lt, hi, w1, q, cn_l, Option.toList, List.cons_append, List.nil_append, if_true, g108_16, nQ_add, rfS]
  exact (g108_0).trans (L 9 0 rfl)
end Tk
