/-! The law's operation: its run. -/
abbrev dirN (y : Int32) : Nat := upN y 2
abbrev namN (y : Int32) : Nat := upN (y >>> (nQ 1 &&& nQ 31)) 10
def sizN (y : Int32) : Nat := if ((y >>> (nQ 19 &&& nQ 31)) &&& nQ 1) = nQ 0 then upN (y >>> (nQ 5 &&& nQ 31)) 5001 else upN (y >>> (nQ 5 &&& nQ 31)) 50
abbrev usrN (x : Int32) : Nat := upN x 6
abbrev grpN (x : Int32) : Nat := upN (x >>> (nQ 3 &&& nQ 31)) 3
abbrev swiN (x : Int32) : Nat := upN (x >>> (nQ 5 &&& nQ 31)) 8
abbrev keyN (y : Int32) : Nat := 100 * dirN y + namN y
def newP (f : Nat → Int32) (n : Nat) (y : Int32) : Prop := ∀ i, i < n → ¬ f (5 + 4 * i) = nQ (keyN y)
theorem siz_le (y : Int32) : sizN y ≤ 5000 := by
  unfold sizN
  split
  · have := up_lt (y >>> (nQ 5 &&& nQ 31)) (n := 5001) (by decide); omega
  · have := up_lt (y >>> (nQ 5 &&& nQ 31)) (n := 50) (by decide); omega
theorem dir_lt (y : Int32) : dirN y < 2 := up_lt _ (by decide)
theorem nam_lt (y : Int32) : namN y < 10 := up_lt _ (by decide)
theorem usr_lt (x : Int32) : usrN x < 6 := up_lt _ (by decide)
theorem grp_lt (x : Int32) : grpN x < 3 := up_lt _ (by decide)
theorem swi_lt (x : Int32) : swiN x < 8 := up_lt _ (by decide)
theorem fi_at {f : Nat → Int32} {n j : Nat} {key : Int32} (hD : disF f n) (hj : j < n) (hk : f (5 + 4 * j) = key) (w : Nat) : fiF f key w n = f (5 + 4 * j + w) := by
  rcases fi_spec f key w n with ⟨i, hi, h1, h2⟩ | ⟨_, h2⟩
  · rw [h1, hD i j hi hj (h2.trans hk.symm)]
  · exact absurd hk (h2 j hj)
theorem fi_no {f : Nat → Int32} {n : Nat} {key : Int32} (h : ∀ i, i < n → ¬ f (5 + 4 * i) = key) (w : Nat) : fiF f key w n = -1 := by
  rcases fi_spec f key w n with ⟨i, hi, _, h2⟩ | ⟨h1, _⟩
  · exact absurd h2 (h i hi)
  · exact h1
theorem key_q (y : Int32) : nQ 100 * nQ (dirN y) + nQ (namN y) = nQ (keyN y) := by rw [nQ_mul, nQ_add]
section Of
variable {f : Nat → Int32} {n T : Nat}
theorem op_pre {τ : Mem} {H : Nat → Nat → Int32} {c : Nat} (h : RV τ f H c) (hn : f 4 = nQ n) (h60 : n ≤ 60) (x y : Int32) : DoM 109 [.ref 8, .int x, .int y] τ = RuM 109 (48, [some (.ref 8), some (.int x), some (.int y), some (.int (nQ (dirN y))), some (.int (nQ (namN y))), some (.int (nQ (sizN y)))], [.int (fiF f (nQ (keyN y)) 3 n)], 0, 0) τ := by
  have w1 : tkM τ 8 = (1, 4) := h.1.1.1.1
  have q := q70 h hn h60 (v := dirN y) (w := namN y) (by have := dir_lt y; omega) (by have := nam_lt y; omega)
  rw [key_q] at q
  have u2 := up_c (σ := τ) y (n := 2) (by decide) (by decide)
  have u10 := up_c (σ := τ) (y >>> (nQ 1 &&& nQ 31)) (n := 10) (by decide) (by decide)
  refine (g109_0).trans ?_
  unfold sizN
  by_cases c1 : ((y >>> (nQ 19 &&& nQ 31)) &&& nQ 1) = nQ 0
  · have u3 := up_c (σ := τ) (y >>> (nQ 5 &&& nQ 31)) (n := 5001) (by decide) (by decide)
    simp only [u2, u10, u3, c1, w1, q, if_true, cn_l, Option.toList, List.cons_append, List.nil_append, g109_5, g109_14, g109_36, g109_39]
  · have u3 := up_c (σ := τ) (y >>> (nQ 5 &&& nQ 31)) (n := 50) (by decide) (by decide)
    simp only [u2, u10, u3, c1, w1, q, if_true, if_false, cn_l, Option.toList, List.cons_append, List.nil_append, g109_5, g109_14, g109_36, g109_39]
/-- whose user an operation's is -/
def oprU (f : Nat → Int32) (n : Nat) (x y : Int32) (u : Nat) : Prop := (newP f n y ∧ u = usrN x) ∨ (¬ newP f n y ∧ ((swiN x = 1 ∨ swiN x = 2) ∧ u = usrN x ∨ ¬ (swiN x = 1 ∨ swiN x = 2) ∧ u < 6 ∧ fiF f (nQ (keyN y)) 1 n = nQ u))
theorem op_ex (hI : InvF f n) (hG : GX f n T) (hT : T < 100000) (x y : Int32) : ∃ v f' n' u, (OpA f f' n n' u v ∨ OpB f f' n n' u v) ∧ oprU f n x y u ∧ GX f' n' T ∧ (newP f n y → v = nQ (raN f n (riF r0Q (nQ (sizN y)) (nQ 1) (nQ (sizN y)) (nQ 1)) (usrN x) (grpN x))) ∧ ∀ τ H c g, RW τ f H c g → OpR τ 109 [.int x, .int y] v f' g (hpF H c f) (csN c) := by
  have hn := hG.2.1
  have h60 := hG.2.2
  have hn20 := n20 hG.1.2.1 hI.1.2.1
  have hz := siz_le y
  have hd := dir_lt y
  have hm := nam_lt y
  have hu := usr_lt x
  have hg := grp_lt x
  have hsw := swi_lt x
  have u6 : ∀ τ, DoM 105 [.int x, .int (nQ 6)] τ = some (.inl (some (.int (nQ (usrN x)))), τ) := fun τ => up_c (σ := τ) x (n := 6) (by decide) (by decide)
  have u3 : ∀ τ, DoM 105 [.int (x >>> (nQ 3 &&& nQ 31)), .int (nQ 3)] τ = some (.inl (some (.int (nQ (grpN x)))), τ) := fun τ => up_c (σ := τ) _ (n := 3) (by decide) (by decide)
  have u8 : ∀ τ, DoM 105 [.int (x >>> (nQ 5 &&& nQ 31)), .int (nQ 8)] τ = some (.inl (some (.int (nQ (swiN x)))), τ) := fun τ => up_c (σ := τ) _ (n := 8) (by decide) (by decide)
  by_cases hnew : newP f n y
  · refine ⟨_, crF f n (riF r0Q (nQ (sizN y)) (nQ 1) (nQ (sizN y)) (nQ 1)) (usrN x) (grpN x) (nQ (keyN y)) (nQ (sizN y)), crN f n (riF r0Q (nQ (sizN y)) (nQ 1) (nQ (sizN y)) (nQ 1)) (usrN x) (grpN x), usrN x, OpS_cr hI (by omega) hu hg hz hnew, Or.inl ⟨hnew, rfl⟩, GX_cr hT (by omega) hG _ hu hg hd hm _, fun _ => rfl, fun τ H c g h => ?_⟩
    obtain ⟨τ', o1, o2, o3⟩ := o45 h hn h60 (by omega) (u := usrN x) (g0 := grpN x) (v := dirN y) (w := namN y) (z := sizN y) (by omega) (by omega) (by omega) (by omega) hz hnew
    refine ⟨τ', ?_, o2, o3⟩
    have w1 : tkM τ 8 = (1, 4) := h.1.1.1.1.1
    rw [op_pre h.1 hn h60, fi_no hnew, g109_48]
    simp only [u6, u3, w1, o1, if_true, cn_l, Option.toList, List.cons_append, List.nil_append, g109_59, g109_66, g109_74]
  · obtain ⟨j, hj, hkj⟩ : ∃ j, j < n ∧ f (5 + 4 * j) = nQ (keyN y) := Classical.byContradiction fun z => hnew fun i hi e => z ⟨i, hi, e⟩
    obtain ⟨u0, g0, s, hu0, hg0, hs, eu, eg, es⟩ := hI.1.1 j hj
    have e3 : fiF f (nQ (keyN y)) 3 n = nQ s := (fi_at hI.1.2.1 hj hkj 3).trans es
    have e1 : fiF f (nQ (keyN y)) 1 n = nQ u0 := (fi_at hI.1.2.1 hj hkj 1).trans eu
    have em := nQ_m1 (i := s) (by omega)
    have s0 : (nQ (swiN x) = nQ 0) = (swiN x = 0) := nQ_eq (by omega) (by decide)
    have s1 : (nQ (swiN x) = nQ 1) = (swiN x = 1) := nQ_eq (by omega) (by decide)
    have s2 : (nQ (swiN x) = nQ 2) = (swiN x = 2) := nQ_eq (by omega) (by decide)
    by_cases c0 : swiN x = 0
    · obtain ⟨n0, rfl⟩ : ∃ n0, n = n0 + 1 := ⟨n - 1, by omega⟩
      refine ⟨_, deF f (n0 + 1) j, n0, u0, Or.inr (OpS_de hI h60 hj hu0 hg0 hs eu eg es u0), Or.inr ⟨hnew, Or.inr ⟨by omega, hu0, e1⟩⟩, GX_de hT hG hj, fun z => absurd z hnew, fun τ H c g h => ?_⟩
      obtain ⟨τ', o1, o2, o3⟩ := o47 h hn h60 (v := dirN y) (w := namN y) (by omega) (by omega) hj hkj hu0 hg0 hs eu eg es
      refine ⟨τ', ?_, o2, o3⟩
      have w1 : tkM τ 8 = (1, 4) := h.1.1.1.1.1
      rw [op_pre h.1 hn h60, e3, g109_48]
      simp only [em, u8, s0, c0, w1, o1, nQ_add, if_true, if_false, cn_l, Option.toList, List.cons_append, List.nil_append, g109_83, g109_117]
    · by_cases c12 : swiN x = 1 ∨ swiN x = 2
      · refine ⟨_, mvF f n (mrF f r0Q (usrN x) (grpN x) j) (usrN x) (grpN x) j, n, usrN x, OpS_mv hI h60 hj hu0 hg0 hs eu eg es hu hg, Or.inr ⟨hnew, Or.inl ⟨c12, rfl⟩⟩, GX_mv hT hG _ hu hg hj, fun z => absurd z hnew, fun τ H c g h => ?_⟩
        obtain ⟨τ', o1, o2, o3⟩ := o48 h hn h60 (v := dirN y) (w := namN y) (u := usrN x) (g1 := grpN x) (by omega) (by omega) hj hkj hu0 hg0 hs eu eg es (by omega) (by omega)
        refine ⟨τ', ?_, o2, o3⟩
        have w1 : tkM τ 8 = (1, 4) := h.1.1.1.1.1
        rw [op_pre h.1 hn h60, e3, g109_48]
        have f0 : (swiN x = 0) = False := eq_false c0
        rcases c12 with c1 | c2
        · have t1 : (swiN x = 1) = True := eq_true c1
          simp only [em, u8, s0, s1, f0, t1, if_true, if_false, cn_l, Option.toList, List.cons_append, List.nil_append, g109_83]
          simp only [u6, u3, w1, o1, if_true, cn_l, Option.toList, List.cons_append, List.nil_append, g109_119, g109_129, g109_136, g109_139]
        · have t2 : (swiN x = 2) = True := eq_true c2
          have f1 : (swiN x = 1) = False := eq_false (by omega)
          simp only [em, u8, s0, s1, s2, f0, f1, t2, if_true, if_false, cn_l, Option.toList, List.cons_append, List.nil_append, g109_83]
          simp only [u6, u3, w1, o1, if_true, cn_l, Option.toList, List.cons_append, List.nil_append, g109_119, g109_129, g109_136, g109_139]
      · refine ⟨_, rsF f n (riF r0Q (moF f j (nQ (sizN y))) (nQ 0) (moF f j (nQ (sizN y))) (nQ 0)) u0 g0 j (nQ (sizN y)), n, u0, OpS_rs hI h60 hj hu0 hg0 hs hz eu eg es, Or.inr ⟨hnew, Or.inr ⟨c12, hu0, e1⟩⟩, GX_rs hT hG _ hu0 hg0 hj _, fun z => absurd z hnew, fun τ H c g h => ?_⟩
        obtain ⟨τ', o1, o2, o3⟩ := o46 h hn h60 (v := dirN y) (w := namN y) (z := sizN y) (by omega) (by omega) hj hkj hu0 hg0 hs eu eg es hz
        refine ⟨τ', ?_, o2, o3⟩
        have w1 : tkM τ 8 = (1, 4) := h.1.1.1.1.1
        have f0 : (swiN x = 0) = False := eq_false c0
        have f1 : (swiN x = 1) = False := eq_false (fun z => c12 (Or.inl z))
        have f2 : (swiN x = 2) = False := eq_false (fun z => c12 (Or.inr z))
        rw [op_pre h.1 hn h60, e3, g109_48]
        simp only [em, u8, s0, s1, s2, f0, f1, f2, w1, o1, if_true, if_false, cn_l, Option.toList, List.cons_append, List.nil_append, g109_83, g109_149]
end Of
