/-! The law's check of an operation: its run. -/
def Fr8 (τ τ' : Mem) : Prop := ∀ v, v < 8 → tkM τ' v = tkM τ v ∧ rdM τ' v = rdM τ v
theorem F8_rfl (τ : Mem) : Fr8 τ τ := fun _ _ => ⟨rfl, rfl⟩
theorem F8_tr {τ τ' τ'' : Mem} (h : Fr8 τ τ') (h' : Fr8 τ' τ'') : Fr8 τ τ'' := fun v hv => ⟨(h' v hv).1.trans (h v hv).1, (h' v hv).2.trans (h v hv).2⟩
theorem F8_fr {τ τ' : Mem} (h : FrW τ τ') : Fr8 τ τ' := fun v hv => ⟨by rw [h.1], h.2.2 v (Or.inl hv)⟩
theorem RW_wr {τ : Mem} {f g : Nat → Int32} {H : Nat → Nat → Int32} {c p j : Nat} {x : Int32} (h : RW τ f H c g) (hp : 186 ≤ p) : RW (wrM τ p j x) f H c g := RW_cg h (fun _ _ => rfl) (fun _ _ => rfl) (fun v _ h2 => rdf_wr (by omega)) (Nat.le_refl _)
theorem RW_nw {τ : Mem} {f g : Nat → Int32} {H : Nat → Nat → Int32} {c : Nat} (h : RW τ f H c g) (k l : Nat) : RW (nwM τ k l) f H c g := by
  have hg := Gr_nw (σ := τ) rfl k l
  have h186 : 186 ≤ nxM τ := h.1.1.2
  exact RW_cg h (fun v hv => (hg v hv).1) (fun v hv => (hg v (Nat.lt_of_lt_of_le hv h186)).2.1) (fun v _ h2 => (hg v (by omega)).2.2) (by rw [nx_nw]; omega)
def LvI (τ : Mem) (f g : Nat → Int32) (H : Nat → Nat → Int32) (c n p i : Nat) (σ : Mem) : Prop := (RW σ f H c g ∧ 186 ≤ p) ∧ tkM σ p = (2, 54) ∧ nxM σ = p + 1 ∧ Fr8 τ σ ∧ ∀ k, k < i → rdM σ p k = usK f n k ∧ rdM σ p (18 + k) = avK f n k ∧ rdM σ p (36 + k) = if k < 9 then f (299 + k) else nQ 0
theorem rd_wr1 (σ : Mem) (p j : Nat) (x : Int32) (i : Nat) : rdM (wrM σ p j x) p i = if i = j then x else rdM σ p i := by
  show (if p = p ∧ i = j then x else rdM σ p i) = _
  by_cases e : i = j
  · rw [if_pos ⟨rfl, e⟩, if_pos e]
  · rw [if_neg (fun z => e z.2), if_neg e]
section Ck
variable {τ σ : Mem} {f g : Nat → Int32} {H : Nat → Nat → Int32} {c n p : Nat} {x y : Int32}
theorem Lv_st {i : Nat} (hi : i < 18) (h : LvI τ f g H c n p i σ) : LvI τ f g H c n p (i + 1) (wrM (wrM (wrM σ p i (usK f n i)) p (18 + i) (avK f n i)) p (36 + i) (if i < 9 then f (299 + i) else nQ 0)) := by
  obtain ⟨⟨a1, a2⟩, a3, a4, a5, a6⟩ := h
  refine ⟨⟨RW_wr (RW_wr (RW_wr a1 a2) a2) a2, a2⟩, a3, a4, fun v hv => ⟨(a5 v hv).1, ?_⟩, fun k hk => ?_⟩
  · rw [rdf_wr (by omega), rdf_wr (by omega), rdf_wr (by omega)]
    exact (a5 v hv).2
  · by_cases e : k = i
    · subst e
      refine ⟨?_, ?_, ?_⟩
      · rw [rd_wr1, if_neg (by omega), rd_wr1, if_neg (by omega), rd_wr1, if_pos rfl]
      · rw [rd_wr1, if_neg (by omega), rd_wr1, if_pos rfl]
      · rw [rd_wr1, if_pos rfl]
    · obtain ⟨b1, b2, b3⟩ := a6 k (by omega)
      refine ⟨?_, ?_, ?_⟩
      · rw [rd_wr1, if_neg (by omega), rd_wr1, if_neg (by omega), rd_wr1, if_neg (by omega), b1]
      · rw [rd_wr1, if_neg (by omega), rd_wr1, if_neg (by omega), rd_wr1, if_neg (by omega), b2]
      · rw [rd_wr1, if_neg (by omega), rd_wr1, if_neg (by omega), rd_wr1, if_neg (by omega), b3]
theorem ck_loop (hn : f 4 = nQ n) (h60 : n ≤ 60) : ∀ (m i : Nat) (σ : Mem), i + m = 18 → LvI τ f g H c n p i σ → ∃ σ', LvI τ f g H c n p 18 σ' ∧ RuM 112 (8, [some (.ref 8), some (.int x), some (.int y), some (.ref p), some (.int (nQ i)), none, none, none, none, none, none, none, none, none, none, none, none, none, none, none, none], [], 1, 54) σ = RuM 112 (8, [some (.ref 8), some (.int x), some (.int y), some (.ref p), some (.int (nQ 18)), none, none, none, none, none, none, none, none, none, none, none, none, none, none, none, none], [], 1, 54) σ' := by
  intro m
  induction m with
  | zero =>
    intro i σ e h
    obtain rfl : i = 18 := e
    exact ⟨σ, h, rfl⟩
  | succ m ih =>
    intro i σ e h
    have hi : i < 18 := by omega
    obtain ⟨σ', x1, x2⟩ := ih (i + 1) _ (by omega) (Lv_st hi h)
    refine ⟨σ', x1, ?_⟩
    rw [← x2]
    clear x1 x2 ih
    obtain ⟨⟨a1, a2⟩, a3, a4, a5, a6⟩ := h
    have hp8 : 8 ≤ p := by omega
    have w1 : tkM σ 8 = (1, 4) := a1.1.1.1.1.1
    have r1 := RW_wr (j := i) (x := usK f n i) a1 a2
    have r2 := RW_wr (j := 18 + i) (x := avK f n i) r1 a2
    have k1 := k61 a1.1 hn h60 hi
    have k2 := k67 r1.1 hn h60 hi
    rw [g112_8]
    by_cases c9 : i < 9
    · have k3 := q68 r2.1 hn h60 (a := i) (by omega)
      simp (disch := omega) only [nQ_lt, hi, c9, w1, tk_wr, nQ_div, nQ_mul, nQ_sub, nQ_add, k1, k2, k3, aOk, a3, hp8, nQ_nat, nQ_neg, leF, cn_l, Option.toList, List.cons_append, List.nil_append, if_true, true_and, and_true, or_false, false_or, not_false_eq_true, g112_30, g112_31, g112_49, g112_50, g112_69, g112_73, g112_74]
    · simp (disch := omega) only [nQ_lt, hi, c9, w1, tk_wr, nQ_div, nQ_mul, nQ_sub, nQ_add, k1, k2, aOk, a3, hp8, nQ_nat, nQ_neg, leF, cn_l, Option.toList, List.cons_append, List.nil_append, if_true, if_false, true_and, and_true, or_false, false_or, not_false_eq_true, g112_30, g112_31, g112_49, g112_50, g112_73, g112_74]
theorem ck_u {u : Nat} (h : RV σ f H c) (hn : f 4 = nQ n) (h60 : n ≤ 60) (hu : u < 6) (i6 i7 : Int32) : RuM 112 (174, [some (.ref 8), some (.int x), some (.int y), some (.ref p), some (.int (nQ (dirN y))), some (.int (nQ (namN y))), some (.int i6), some (.int i7), none, none, none, none, none, none, none, none, none, none, none, none, none], [.int (nQ u)], 1, 54) σ = RuM 112 (207, [some (.ref 8), some (.int x), some (.int y), some (.ref p), some (.int (nQ (dirN y))), some (.int (nQ (namN y))), some (.int i6), some (.int i7), some (.int (nQ u)), some (.int (if frF f u then nQ 1 else nQ 0)), none, none, none, none, none, none, none, none, none, none, none], [.int (nQ (sizN y))], 1, 54) σ := by
  have w1 : tkM σ 8 = (1, 4) := h.1.1.1.1
  have q := q80 h hn h60 (a := u) (by omega)
  rw [g112_174]
  unfold sizN
  by_cases c1 : ((y >>> (nQ 19 &&& nQ 31)) &&& nQ 1) = nQ 0
  · have u3 := up_c (σ := σ) (y >>> (nQ 5 &&& nQ 31)) (n := 5001) (by decide) (by decide)
    simp only [w1, q, c1, u3, cn_l, Option.toList, List.cons_append, List.nil_append, if_true, g112_182, g112_204]
  · have u3 := up_c (σ := σ) (y >>> (nQ 5 &&& nQ 31)) (n := 50) (by decide) (by decide)
    simp only [w1, q, c1, u3, cn_l, Option.toList, List.cons_append, List.nil_append, if_true, if_false, g112_182, g112_204]
theorem ck_v {u : Nat} (h : RV σ f H c) (hn : f 4 = nQ n) (h60 : n ≤ 60) (i6 i7 i11 : Int32) : RuM 112 (233, [some (.ref 8), some (.int x), some (.int y), some (.ref p), some (.int (nQ (dirN y))), some (.int (nQ (namN y))), some (.int i6), some (.int i7), some (.int (nQ u)), some (.int (if frF f u then nQ 1 else nQ 0)), some (.int (nQ (sizN y))), none, none, none, none, none, none, none, none, none, none], [.int i11], 1, 54) σ = cnM (DoM 109 [.ref 8, .int x, .int y] σ) (fun v σ' => RuM 112 (265, [some (.ref 8), some (.int x), some (.int y), some (.ref p), some (.int (nQ (dirN y))), some (.int (nQ (namN y))), some (.int i6), some (.int i7), some (.int (nQ u)), some (.int (if frF f u then nQ 1 else nQ 0)), some (.int (nQ (sizN y))), some (.int i11), some (.long (quF f n)), none, some (.int (rfS f 9)), some (.int (f 308)), some (.int (nQ c)), none, none, none, none], v.toList ++ [], 1, 54) σ') (fun _ _ => none) := by
  have w1 : tkM σ 8 = (1, 4) := h.1.1.1.1
  rw [g112_233]
  simp only [w1, qu_c h hn h60, rs_c h hn h60, q84 h hn h60, q85 h, cn_l, Option.toList, List.cons_append, List.nil_append, if_true, g112_239, g112_245, g112_251, g112_257]
theorem ck_mid {f' : Nat → Int32} {n' u : Nat} {v : Int32} (hI : InvF f n) (h : RW σ f H c g) (hn : f 4 = nQ n) (h60 : n ≤ 60) (hu : u < 6) (hU : oprU f n x y u) (hw : newP f n y → v = nQ (raN f n (riF r0Q (nQ (sizN y)) (nQ 1) (nQ (sizN y)) (nQ 1)) (usrN x) (grpN x))) (hop : OpR σ 109 [.int x, .int y] v f' g (hpF H c f) (csN c)) : ∃ σ2 i6 i7 i11, RW σ2 f' (hpF H c f) (csN c) g ∧ FrW σ σ2 ∧ (i6 = nQ 0 ∨ i11 = v) ∧ RuM 112 (8, [some (.ref 8), some (.int x), some (.int y), some (.ref p), some (.int (nQ 18)), none, none, none, none, none, none, none, none, none, none, none, none, none, none, none, none], [], 1, 54) σ = RuM 112 (265, [some (.ref 8), some (.int x), some (.int y), some (.ref p), some (.int (nQ (dirN y))), some (.int (nQ (namN y))), some (.int i6), some (.int i7), some (.int (nQ u)), some (.int (if frF f u then nQ 1 else nQ 0)), some (.int (nQ (sizN y))), some (.int i11), some (.long (quF f n)), none, some (.int (rfS f 9)), some (.int (f 308)), some (.int (nQ c)), none, none, none, none], [.int v], 1, 54) σ2 := by
  obtain ⟨σ2, o1, o2, o3⟩ := hop
  have w1 : tkM σ 8 = (1, 4) := h.1.1.1.1.1
  have hd := dir_lt y
  have hm := nam_lt y
  have q0 := q70 h.1 hn h60 (v := dirN y) (w := namN y) (by omega) (by omega)
  have q1 := q71 h.1 hn h60 (v := dirN y) (w := namN y) (by omega) (by omega)
  rw [key_q] at q0 q1
  have u2 := up_c (σ := σ) y (n := 2) (by decide) (by decide)
  have u10 := up_c (σ := σ) (y >>> (nQ 1 &&& nQ 31)) (n := 10) (by decide) (by decide)
  have u6 : DoM 105 [.int x, .int (nQ 6)] σ = some (.inl (some (.int (nQ (usrN x)))), σ) := up_c (σ := σ) x (n := 6) (by decide) (by decide)
  have u3 : DoM 105 [.int (x >>> (nQ 3 &&& nQ 31)), .int (nQ 3)] σ = some (.inl (some (.int (nQ (grpN x)))), σ) := up_c (σ := σ) _ (n := 3) (by decide) (by decide)
  have u8 : DoM 105 [.int (x >>> (nQ 5 &&& nQ 31)), .int (nQ 8)] σ = some (.inl (some (.int (nQ (swiN x)))), σ) := up_c (σ := σ) _ (n := 8) (by decide) (by decide)
  have hsw := swi_lt x
  have hgr := grp_lt x
  have hsz := siz_le y
  have s1 : (nQ (swiN x) = nQ 1) = (swiN x = 1) := nQ_eq (by omega) (by decide)
  have s2 : (nQ (swiN x) = nQ 2) = (swiN x = 2) := nQ_eq (by omega) (by decide)
  have X : RuM 112 (8, [some (.ref 8), some (.int x), some (.int y), some (.ref p), some (.int (nQ 18)), none, none, none, none, none, none, none, none, none, none, none, none, none, none, none, none], [], 1, 54) σ = RuM 112 (105, [some (.ref 8), some (.int x), some (.int y), some (.ref p), some (.int (nQ (dirN y))), some (.int (nQ (namN y))), none, none, none, none, none, none, none, none, none, none, none, none, none, none, none], [.int (fiF f (nQ (keyN y)) 3 n)], 1, 54) σ := by
    rw [g112_8]
    simp (disch := omega) only [nQ_lt, Nat.lt_irrefl, if_false, u2, u10, w1, q0, cn_l, Option.toList, List.cons_append, List.nil_append, if_true, g112_85, g112_95]
  rcases hU with ⟨hnew, rfl⟩ | ⟨hnew, hU⟩
  · refine ⟨σ2, nQ 1, nQ 1, v, o2, o3, Or.inr rfl, ?_⟩
    have q76' := q76 h.1 hn h60 (u := usrN x) (g := grpN x) (z := sizN y) (by omega) (by omega) hsz
    rw [X, fi_no hnew, g112_105]
    simp only [if_true, q10, if_false, u6, cn_l, Option.toList, List.cons_append, List.nil_append, g112_114, g112_145, g112_150, g112_163]
    rw [ck_u h.1 hn h60 hu, g112_207]
    simp only [q10, if_false, u3, w1, q76', if_true, cn_l, Option.toList, List.cons_append, List.nil_append, g112_224, g112_229]
    rw [ck_v h.1 hn h60, o1, ← hw hnew]
    rfl
  · obtain ⟨j, hj, hkj⟩ : ∃ j, j < n ∧ f (5 + 4 * j) = nQ (keyN y) := Classical.byContradiction fun z => hnew fun i hi e => z ⟨i, hi, e⟩
    obtain ⟨u0, g0, s, hu0, hg0, hs, eu, eg, es⟩ := hI.1.1 j hj
    have e3 : fiF f (nQ (keyN y)) 3 n = nQ s := (fi_at hI.1.2.1 hj hkj 3).trans es
    have em := nQ_m1 (i := s) (by omega)
    have Y : ∀ i7, RuM 112 (174, [some (.ref 8), some (.int x), some (.int y), some (.ref p), some (.int (nQ (dirN y))), some (.int (nQ (namN y))), some (.int (nQ 0)), some (.int i7), none, none, none, none, none, none, none, none, none, none, none, none, none], [.int (nQ u)], 1, 54) σ = RuM 112 (265, [some (.ref 8), some (.int x), some (.int y), some (.ref p), some (.int (nQ (dirN y))), some (.int (nQ (namN y))), some (.int (nQ 0)), some (.int i7), some (.int (nQ u)), some (.int (if frF f u then nQ 1 else nQ 0)), some (.int (nQ (sizN y))), some (.int (nQ 0)), some (.long (quF f n)), none, some (.int (rfS f 9)), some (.int (f 308)), some (.int (nQ c)), none, none, none, none], [.int v], 1, 54) σ2 := by
      intro i7
      rw [ck_u h.1 hn h60 hu, g112_207]
      simp only [if_true]
      rw [ck_v h.1 hn h60, o1]
      rfl
    rcases hU with ⟨hsw12, rfl⟩ | ⟨hsw12, _, e1⟩
    · refine ⟨σ2, nQ 0, nQ 1, nQ 0, o2, o3, Or.inl rfl, ?_⟩
      rw [X, e3, g112_105, ← Y (nQ 1)]
      clear Y
      rcases hsw12 with c1 | c2
      · have t1 : (swiN x = 1) = True := eq_true c1
        simp only [em, if_false, if_true, u8, s1, t1, q10, u6, cn_l, Option.toList, List.cons_append, List.nil_append, g112_114, g112_129, g112_145, g112_150, g112_163]
      · have t2 : (swiN x = 2) = True := eq_true c2
        have f1 : (swiN x = 1) = False := eq_false (by omega)
        simp only [em, if_false, if_true, u8, s1, s2, f1, t2, q10, u6, cn_l, Option.toList, List.cons_append, List.nil_append, g112_114, g112_129, g112_141, g112_145, g112_150, g112_163]
    · refine ⟨σ2, nQ 0, nQ 0, nQ 0, o2, o3, Or.inl rfl, ?_⟩
      rw [X, e3, g112_105, ← Y (nQ 0)]
      clear Y
      have f1 : (swiN x = 1) = False := eq_false (fun z => hsw12 (Or.inl z))
      have f2 : (swiN x = 2) = False := eq_false (fun z => hsw12 (Or.inr z))
      rw [e1] at q1
      simp only [em, if_false, if_true, u8, s1, s2, f1, f2, w1, q1, cn_l, Option.toList, List.cons_append, List.nil_append, g112_114, g112_129, g112_141, g112_150]
end Ck
