/-! The law's check of an operation: behind the operation. -/
section Cl
variable {σ : Mem} {f f' g H' : Nat → Int32} {H : Nat → Nat → Int32} {c c' n n' p u : Nat} {x y i6 i7 i11 v : Int32}
theorem lg_0 (z : Int64) : (lg_cmp z z = nQ 0) = True := by
  unfold lg_cmp
  simp
  exact nQ_z.symm
theorem nq_e {a b : Nat} (h : a = b) : nQ a = nQ b := by rw [h]
theorem ck_307 (hc : c ≤ 6) (h : RV σ f' H (csN c)) (h6 : i6 = nQ 0 ∨ i11 = v) : RuM 112 (265, [some (.ref 8), some (.int x), some (.int y), some (.ref p), some (.int (nQ (dirN y))), some (.int (nQ (namN y))), some (.int i6), some (.int i7), some (.int (nQ u)), some (.int (if frF f u then nQ 1 else nQ 0)), some (.int (nQ (sizN y))), some (.int i11), some (.long (quF f n)), none, some (.int (rfS f 9)), some (.int (f 308)), some (.int (nQ c)), none, none, none, none], [.int v], 1, 54) σ = RuM 112 (307, [some (.ref 8), some (.int x), some (.int y), some (.ref p), some (.int (nQ (dirN y))), some (.int (nQ (namN y))), some (.int i6), some (.int i7), some (.int (nQ u)), some (.int (if frF f u then nQ 1 else nQ 0)), some (.int (nQ (sizN y))), some (.int i11), some (.long (quF f n)), none, some (.int (rfS f 9)), some (.int (f 308)), some (.int (nQ c)), some (.int v), none, none, none], [.int (nQ 1)], 1, 54) σ := by
  have w1 : tkM σ 8 = (1, 4) := h.1.1.1.1
  have q := q85 h
  rw [g112_265]
  have X : RuM 112 (271, [some (.ref 8), some (.int x), some (.int y), some (.ref p), some (.int (nQ (dirN y))), some (.int (nQ (namN y))), some (.int i6), some (.int i7), some (.int (nQ u)), some (.int (if frF f u then nQ 1 else nQ 0)), some (.int (nQ (sizN y))), some (.int i11), some (.long (quF f n)), none, some (.int (rfS f 9)), some (.int (f 308)), some (.int (nQ c)), some (.int v), none, none, none], [.int (nQ (csN c))], 1, 54) σ = RuM 112 (307, [some (.ref 8), some (.int x), some (.int y), some (.ref p), some (.int (nQ (dirN y))), some (.int (nQ (namN y))), some (.int i6), some (.int i7), some (.int (nQ u)), some (.int (if frF f u then nQ 1 else nQ 0)), some (.int (nQ (sizN y))), some (.int i11), some (.long (quF f n)), none, some (.int (rfS f 9)), some (.int (f 308)), some (.int (nQ c)), some (.int v), none, none, none], [.int (nQ 1)], 1, 54) σ := by
    have Z : RuM 112 (287, [some (.ref 8), some (.int x), some (.int y), some (.ref p), some (.int (nQ (dirN y))), some (.int (nQ (namN y))), some (.int i6), some (.int i7), some (.int (nQ u)), some (.int (if frF f u then nQ 1 else nQ 0)), some (.int (nQ (sizN y))), some (.int i11), some (.long (quF f n)), none, some (.int (rfS f 9)), some (.int (f 308)), some (.int (nQ c)), some (.int v), none, none, none], [.int (nQ (csN c)), .int (nQ (csN c))], 1, 54) σ = RuM 112 (307, [some (.ref 8), some (.int x), some (.int y), some (.ref p), some (.int (nQ (dirN y))), some (.int (nQ (namN y))), some (.int i6), some (.int i7), some (.int (nQ u)), some (.int (if frF f u then nQ 1 else nQ 0)), some (.int (nQ (sizN y))), some (.int i11), some (.long (quF f n)), none, some (.int (rfS f 9)), some (.int (f 308)), some (.int (nQ c)), some (.int v), none, none, none], [.int (nQ 1)], 1, 54) σ := by
      rw [g112_287, if_pos rfl]
      by_cases e6 : i6 = nQ 0
      · simp only [e6, if_true, g112_302]
      · have e11 := h6.resolve_left e6
        simp only [e6, e11, if_true, if_false, g112_302]
    rw [g112_271]
    by_cases c6 : c < 6
    · have ec : csN c = c + 1 := if_neg (by omega)
      rw [ec] at Z ⊢
      simp (disch := omega) only [nQ_lt, c6, if_true, nQ_add]
      exact Z
    · have ec : csN c = 6 := by unfold csN; exact if_pos (by omega)
      rw [ec] at Z ⊢
      simp (disch := omega) only [nQ_lt, c6, if_false]
      exact Z
  simp only [w1, q, if_true, cn_l, Option.toList, List.cons_append, List.nil_append]
  exact X
theorem ck_A (h : RV σ f' H c') (hn' : f' 4 = nQ n') (h60 : n' ≤ 60) (t : tkM σ p = (2, 54)) (hrd : ∀ k, k < 18 → rdM σ p (36 + k) = if k < 9 then f (299 + k) else nQ 0) {e : Nat} (he : f 308 = nQ e) (h12 : e ≤ 12) (hA : OpA f f' n n' u v) : RuM 112 (307, [some (.ref 8), some (.int x), some (.int y), some (.ref p), some (.int (nQ (dirN y))), some (.int (nQ (namN y))), some (.int i6), some (.int i7), some (.int (nQ u)), some (.int (if frF f u then nQ 1 else nQ 0)), some (.int (nQ (sizN y))), some (.int i11), some (.long (quF f n)), none, some (.int (rfS f 9)), some (.int (f 308)), some (.int (nQ c)), some (.int v), none, none, none], [.int (nQ 1)], 1, 54) σ = some (.inl (some (.int (nQ 1))), σ) := by
  obtain ⟨ρ, g0, acc, ⟨r1, r8, rfl, nf, hu, hg, ea, hnn⟩, b1, b2, b3, b4, b5, b6, b7, b8⟩ := hA
  have hnn' := hnn.symm
  subst hnn'
  have w1 : tkM σ 8 = (1, 4) := h.1.1.1.1
  have hacc : acc < 9 := by rw [ea]; split <;> omega
  obtain ⟨e', he', l1, l2, l3⟩ : ∃ e', f' 308 = nQ e' ∧ 1 ≤ e' ∧ e' ≤ 12 ∧ nQ e' = if nQ e < nQ 12 then nQ e + nQ 1 else nQ 12 := by
    rw [b4, he]
    by_cases ce : e < 12
    · have cq : nQ e < nQ 12 := by rw [nQ_lt (by omega) (by decide)]; exact ce
      exact ⟨e + 1, by rw [if_pos cq, nQ_add], by omega, by omega, by rw [if_pos cq, nQ_add]⟩
    · have cq : ¬ nQ e < nQ 12 := by rw [nQ_lt (by omega) (by decide)]; exact ce
      have : e = 12 := by omega
      subst this
      exact ⟨12, by rw [if_neg cq]; rfl, by omega, by omega, by rw [if_neg cq]⟩
  have q83' : ∀ m, m ≤ 3 → DoM 83 [.ref 8, .int (nQ 0), .int (nQ m)] σ = some (.inl (some (.int (f' (309 + m)))), σ) := by
    intro m hm
    have q := q83 h hn' h60 (v := 0) (p := m) (by decide) hm he' l2
    rw [if_pos (by rw [nQ_lt (by decide) (by omega)]; omega), nQ_nat (by decide)] at q
    exact q
  have e0 := q83' 0 (by decide)
  have e1 := q83' 1 (by decide)
  have e2 := q83' 2 (by decide)
  have e3 := q83' 3 (by decide)
  rw [show 309 + 0 = 309 from rfl, b5] at e0
  rw [show 309 + 1 = 310 from rfl, b6] at e1
  rw [show 309 + 2 = 311 from rfl, b7] at e2
  rw [show 309 + 3 = 312 from rfl, b8] at e3
  have q68' := q68 h hn' h60 (a := acc) (by omega)
  rw [b3] at q68'
  have qq := qu_c h hn' h60
  rw [qu_cg h60 b1] at qq
  have qr := rs_c h hn' h60
  rw [b2] at qr
  have q78' := q78 h hn' h60
  rw [b1 0 (by decide)] at q78'
  have q84' := q84 h hn' h60
  rw [he'] at q84'
  have hr36 := hrd acc (by omega)
  rw [if_pos hacc] at hr36
  have k0 : (nQ 0 < nQ ρ) = True := by rw [nQ_lt (by decide) (by omega)]; exact eq_true (by omega)
  have k9 : (nQ ρ < nQ 9) = True := by rw [nQ_lt (by omega) (by decide)]; exact eq_true (by omega)
  have fr : (if frF f u then nQ 1 else nQ 0) = nQ 0 := if_neg nf
  have X : RuM 112 (307, [some (.ref 8), some (.int x), some (.int y), some (.ref p), some (.int (nQ (dirN y))), some (.int (nQ (namN y))), some (.int i6), some (.int i7), some (.int (nQ u)), some (.int (if frF f u then nQ 1 else nQ 0)), some (.int (nQ (sizN y))), some (.int i11), some (.long (quF f n)), none, some (.int (rfS f 9)), some (.int (f 308)), some (.int (nQ c)), some (.int (nQ ρ)), none, none, none], [.int (nQ 1)], 1, 54) σ = RuM 112 (338, [some (.ref 8), some (.int x), some (.int y), some (.ref p), some (.int (nQ (dirN y))), some (.int (nQ (namN y))), some (.int i6), some (.int i7), some (.int (nQ u)), some (.int (if frF f u then nQ 1 else nQ 0)), some (.int (nQ (sizN y))), some (.int i11), some (.long (quF f n)), none, some (.int (rfS f 9)), some (.int (f 308)), some (.int (nQ c)), some (.int (nQ ρ)), some (.int (nQ 1)), none, none], [.int (nQ acc)], 1, 54) σ := by
    rw [g112_307]
    by_cases c5 : ρ ≤ 4
    · have k5 : (nQ ρ < nQ 5) = True := by rw [nQ_lt (by omega) (by decide)]; exact eq_true (by omega)
      have : acc = u := by rw [ea, if_pos c5]
      rw [this]
      simp only [k0, k9, k5, if_true]
    · have k5 : (nQ ρ < nQ 5) = False := by rw [nQ_lt (by omega) (by decide)]; exact eq_false (by omega)
      simp only [k0, k9, k5, if_true, if_false, w1, e1, cn_l, Option.toList, List.cons_append, List.nil_append]
  have hd : (nQ ρ - nQ 1) / nQ 2 - (nQ ρ - nQ 1) / nQ 2 / nQ 2 * nQ 2 = nQ ((ρ - 1) / 2 - (ρ - 1) / 2 / 2 * 2) := by
    rw [nQ_sub (by omega), nQ_div (by omega) (by decide), nQ_div (by omega) (by decide), nQ_mul, nQ_sub (by omega)]
  have Y : RuM 112 (405, [some (.ref 8), some (.int x), some (.int y), some (.ref p), some (.int (nQ (dirN y))), some (.int (nQ (namN y))), some (.int i6), some (.int i7), some (.int (nQ u)), some (.int (nQ 0)), some (.int (nQ (sizN y))), some (.int i11), some (.long (quF f n)), none, some (.int (rfS f 9)), some (.int (f 308)), some (.int (nQ c)), some (.int (nQ ρ)), some (.int (nQ 1)), some (.int (nQ acc)), none], [.int (nQ acc)], 1, 54) σ = RuM 112 (433, [some (.ref 8), some (.int x), some (.int y), some (.ref p), some (.int (nQ (dirN y))), some (.int (nQ (namN y))), some (.int i6), some (.int i7), some (.int (nQ u)), some (.int (nQ 0)), some (.int (nQ (sizN y))), some (.int i11), some (.long (quF f n)), none, some (.int (rfS f 9)), some (.int (f 308)), some (.int (nQ c)), some (.int (nQ ρ)), some (.int (nQ 1)), some (.int (nQ acc)), none], [.int (if 4 < ρ then nQ 1 else nQ 0), .int (if 4 < ρ then nQ 1 else nQ 0)], 1, 54) σ := by
    have k6 : (nQ acc < nQ 6) = (acc < 6) := nQ_lt (by omega) (by decide)
    have k4 : (nQ 4 < nQ ρ) = (4 < ρ) := nQ_lt (by decide) (by omega)
    rw [g112_405, if_pos rfl]
    by_cases c5 : ρ ≤ 4
    · have a1 : (acc < 6) = True := eq_true (by rw [ea, if_pos c5]; exact hu)
      have a2 : (4 < ρ) = False := eq_false (by omega)
      simp only [k6, k4, a1, a2, if_true, if_false, g112_422]
    · have a1 : (acc < 6) = False := eq_false (by rw [ea, if_neg c5]; omega)
      have a2 : (4 < ρ) = True := eq_true (by omega)
      simp only [k6, k4, a1, a2, if_true, if_false, g112_422]
  rw [X, g112_338]
  simp (disch := omega) only [q10, fr, if_true, if_false, qq, qr, q68', w1, t, hr36, e0, e1, aOk, nQ_add, nQ_nat, nQ_neg, leF, lg_0, cn_l, Option.toList, List.cons_append, List.nil_append, true_and, or_false, false_or, not_false_eq_true, g112_354, g112_364, g112_377, g112_395]
  refine Y.trans ?_
  rw [g112_433]
  simp only [if_true, w1, e2, hd, e3, q78', q84', he, cn_l, Option.toList, List.cons_append, List.nil_append, g112_442, g112_459, g112_463, g112_470]
  have Z : ∀ i19, RuM 112 (486, [some (.ref 8), some (.int x), some (.int y), some (.ref p), some (.int (nQ (dirN y))), some (.int (nQ (namN y))), some (.int i6), some (.int i7), some (.int (nQ u)), some (.int (nQ 0)), some (.int (nQ (sizN y))), some (.int i11), some (.long (quF f n)), none, some (.int (rfS f 9)), some (.int (nQ e)), some (.int (nQ c)), some (.int (nQ ρ)), some (.int (nQ 1)), some (.int i19), none], [.int (nQ e'), .int (nQ e')], 1, 54) σ = some (.inl (some (.int (nQ 1))), σ) := by
    intro i19
    rw [g112_486, if_pos rfl]
    simp only [g112_494, or_true, if_true]
  by_cases ce : nQ e < nQ 12
  · rw [if_pos ce] at l3 ⊢
    rw [← l3]
    exact Z _
  · rw [if_neg ce] at l3 ⊢
    rw [← l3]
    exact Z _
theorem ck_B (h : RV σ f' H c') (hn' : f' 4 = nQ n') (h60 : n' ≤ 60) (t : tkM σ p = (2, 54)) (hrd : ∀ k, k < 18 → rdM σ p k = usK f n k ∧ rdM σ p (18 + k) = avK f n k) (hB : OpB f f' n n' u v) : RuM 112 (307, [some (.ref 8), some (.int x), some (.int y), some (.ref p), some (.int (nQ (dirN y))), some (.int (nQ (namN y))), some (.int i6), some (.int i7), some (.int (nQ u)), some (.int (if frF f u then nQ 1 else nQ 0)), some (.int (nQ (sizN y))), some (.int i11), some (.long (quF f n)), none, some (.int (rfS f 9)), some (.int (f 308)), some (.int (nQ c)), some (.int v), none, none, none], [.int (nQ 1)], 1, 54) σ = some (.inl (some (.int (nQ 1))), σ) := by
  obtain ⟨hv, b2, b3⟩ := hB
  have w1 : tkM σ 8 = (1, 4) := h.1.1.1.1
  have qr := rs_c h hn' h60
  rw [b2] at qr
  have Lp : ∀ (m i : Nat) (o20 : Option Value), i + m = 18 → RuM 112 (498, [some (.ref 8), some (.int x), some (.int y), some (.ref p), some (.int (nQ (dirN y))), some (.int (nQ (namN y))), some (.int i6), some (.int i7), some (.int (nQ u)), some (.int (if frF f u then nQ 1 else nQ 0)), some (.int (nQ (sizN y))), some (.int i11), some (.long (quF f n)), none, some (.int (rfS f 9)), some (.int (f 308)), some (.int (nQ c)), some (.int v), some (.int (nQ 1)), some (.int (nQ i)), o20], [], 1, 54) σ = some (.inl (some (.int (nQ 1))), σ) := by
    intro m
    induction m with
    | zero =>
      intro i o20 e
      obtain rfl : i = 18 := e
      rw [g112_498]
      simp only [nQ_lt (a := 18) (b := 18) (by decide) (by decide), Nat.lt_irrefl, if_false, q10, qr, cn_l, Option.toList, List.cons_append, List.nil_append, g112_585, if_true, g112_595, or_true]
    | succ m ih =>
      intro i o20 e
      have hi : i < 18 := by omega
      have ih' := fun o => ih (i + 1) o (by omega)
      obtain ⟨d1, d2⟩ := hrd i hi
      have k1 := k61 h hn' h60 hi
      have S : ∀ x20 : Int32, RuM 112 (563, [some (.ref 8), some (.int x), some (.int y), some (.ref p), some (.int (nQ (dirN y))), some (.int (nQ (namN y))), some (.int i6), some (.int i7), some (.int (nQ u)), some (.int (if frF f u then nQ 1 else nQ 0)), some (.int (nQ (sizN y))), some (.int i11), some (.long (quF f n)), none, some (.int (rfS f 9)), some (.int (f 308)), some (.int (nQ c)), some (.int v), some (.int (nQ 1)), some (.int (nQ i)), some (.int x20)], [], 1, 54) σ = some (.inl (some (.int (nQ 1))), σ) := fun x20 => by
        rw [g112_563, g112_568, nQ_add]
        exact ih' _
      rw [g112_498]
      simp (disch := omega) only [nQ_lt, hi, w1, nQ_div, nQ_mul, nQ_sub, k1, if_true, cn_l, Option.toList, List.cons_append, List.nil_append]
      rw [g112_517]
      simp (disch := omega) only [aOk, t, nQ_nat, nQ_neg, nQ_add, leF, d1, d2, q10, if_true, if_false, true_and, and_true, or_false, false_or, not_false_eq_true]
      have hb := b3 i hi
      unfold ChK at hb
      by_cases z1 : nQ 0 < usK f' n' i - usK f n i
      · have hb := hb.resolve_left (fun z => z z1)
        rw [if_pos z1]
        rcases Classical.propComplete (frF f u) with z2 | z2
        · simp only [z2, if_true, q10, if_false] at S ⊢
          exact S _
        · have hb := hb.resolve_left (of_eq_false z2)
          simp only [z2, if_false, if_true] at S ⊢
          by_cases z3 : avK f n i = -2
          · rw [if_pos z3]
            exact S _
          · rw [if_neg z3, if_neg (hb.resolve_left z3)]
            exact S _
      · rw [if_neg z1]
        exact S _
  have T1 : RuM 112 (307, [some (.ref 8), some (.int x), some (.int y), some (.ref p), some (.int (nQ (dirN y))), some (.int (nQ (namN y))), some (.int i6), some (.int i7), some (.int (nQ u)), some (.int (if frF f u then nQ 1 else nQ 0)), some (.int (nQ (sizN y))), some (.int i11), some (.long (quF f n)), none, some (.int (rfS f 9)), some (.int (f 308)), some (.int (nQ c)), some (.int v), none, none, none], [.int (nQ 1)], 1, 54) σ = RuM 112 (495, [some (.ref 8), some (.int x), some (.int y), some (.ref p), some (.int (nQ (dirN y))), some (.int (nQ (namN y))), some (.int i6), some (.int i7), some (.int (nQ u)), some (.int (if frF f u then nQ 1 else nQ 0)), some (.int (nQ (sizN y))), some (.int i11), some (.long (quF f n)), none, some (.int (rfS f 9)), some (.int (f 308)), some (.int (nQ c)), some (.int v), some (.int (nQ 1)), none, none], [], 1, 54) σ := by
    rw [g112_307]
    rcases hv with rfl | ⟨s, hs, rfl⟩
    · simp only [nQ_lt (a := 0) (b := 0) (by decide) (by decide), Nat.lt_irrefl, if_false]
    · have k0 : (nQ 0 < nQ (10 + s)) = True := by rw [nQ_lt (by decide) (by omega)]; exact eq_true (by omega)
      have k9 : (nQ (10 + s) < nQ 9) = False := by rw [nQ_lt (by omega) (by decide)]; exact eq_false (by omega)
      simp only [k0, k9, if_true, if_false]
  rw [T1, g112_495]
  exact Lp 18 0 none rfl
end Cl
/-- the check of an operation: it answers 1, and what is behind it depends on the state and the two numbers alone -/
theorem ck_ex {f : Nat → Int32} {n T : Nat} (hI : InvF f n) (hG : GX f n T) (hT : T < 100000) (x y : Int32) : ∃ f' n', GX f' n' T ∧ ∀ τ H c g, RW τ f H c g → ∃ τ', DoM 112 [.ref 8, .int x, .int y] τ = some (.inl (some (.int (nQ 1))), τ') ∧ RW τ' f' (hpF H c f) (csN c) g ∧ Fr8 τ τ' := by
  obtain ⟨v, f', n', u, hS, hU, hG', hw, hop⟩ := op_ex hI hG hT x y
  have hn := hG.2.1
  have h60 := hG.2.2
  have hu : u < 6 := by
    rcases hU with ⟨_, rfl⟩ | ⟨_, ⟨_, rfl⟩ | ⟨_, hu, _⟩⟩
    · exact usr_lt x
    · exact usr_lt x
    · exact hu
  refine ⟨f', n', hG', fun τ H c g h => ?_⟩
  have h186 : 186 ≤ nxM τ := h.1.1.2
  have L0 : LvI τ f g H c n (nxM τ) 0 (nwM τ 2 54) := by
    refine ⟨⟨RW_nw h 2 54, h186⟩, tk_nw τ 2 54, nx_nw τ 2 54, fun v hv => ?_, fun k hk => absurd hk (Nat.not_lt_zero k)⟩
    have hg := Gr_nw (σ := τ) rfl 2 54 v (by omega)
    exact ⟨hg.1, hg.2.2⟩
  obtain ⟨σ1, L1, x1⟩ := ck_loop (x := x) (y := y) hn h60 18 0 _ rfl L0
  obtain ⟨⟨r1, _⟩, t1, n1, f1, d1⟩ := L1
  obtain ⟨σ2, i6, i7, i11, o2, o3, h6, x2⟩ := ck_mid (n' := n') (p := nxM τ) hI r1 hn h60 hu hU hw (hop σ1 H c g r1)
  have hc : c ≤ 6 := h.1.2.1
  have t2 : tkM σ2 (nxM τ) = (2, 54) := by rw [o3.1]; exact t1
  have d2 : rdM σ2 (nxM τ) = rdM σ1 (nxM τ) := o3.2.2 _ (Or.inr h186)
  refine ⟨σ2, ?_, o2, F8_tr f1 (F8_fr o3)⟩
  have e0 : DoM 112 [.ref 8, .int x, .int y] τ = RuM 112 (8, [some (.ref 8), some (.int x), some (.int y), some (.ref (nxM τ)), some (.int (nQ 0)), none, none, none, none, none, none, none, none, none, none, none, none, none, none, none, none], [], 1, 54) (nwM τ 2 54) := (g112_0).trans (g112_4)
  rw [e0, x1, x2, ck_307 hc o2.1 h6]
  rcases hS with hA | hB
  · obtain ⟨e, he, h12⟩ := ev_ex h.1
    exact ck_A o2.1 hG'.2.1 hG'.2.2 t2 (fun k hk => by rw [d2]; exact (d1 k hk).2.2) he h12 hA
  · exact ck_B o2.1 hG'.2.1 hG'.2.2 t2 (fun k hk => by rw [d2]; exact ⟨(d1 k hk).1, (d1 k hk).2.1⟩) hB
