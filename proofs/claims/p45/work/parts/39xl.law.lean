/-! The law's run. -/
theorem al_1 (a : Nat) : ([.ref a] : List Value).all isOne = true := rfl
theorem al_2 (a : Nat) (x : Int32) : ([.int x, .ref a] : List Value).all isOne = true := rfl
theorem al_3 (a : Nat) (x y : Int32) : ([.int x, .int y, .ref a] : List Value).all isOne = true := rfl
section Lw
variable {f g : Nat → Int32} {H : Nat → Nat → Int32} {c n T L : Nat} {τ : Mem}
theorem IF_w (h : RV τ f H c) (hG : GX f n T) : InvF f n := (RV_n h hG.2.1 hG.2.2).2.2
/-- one operation or one act of administration -/
def StepR (x y b : Int32) (f f' g : Nat → Int32) (dk ds : Nat) : Prop := ∀ τ H c, RW τ f H c g → ∃ τ', RW τ' f' (hpF H c f) (csN c) g ∧ Fr8 τ τ' ∧
  (∀ (j : Int32) (w0 : Int64) (o6 o7 o8 o9 o10 o11 : Option Value) kc ks, kc ≤ 600000 → ks ≤ 7300000 → RuM 113 (78, [some (.ref 1), some (.ref 8), some (.int j), some (.int x), some (.int y), some (.int b), o6, o7, o8, o9, o10, o11], [.long w0], kc, ks) τ = RuM 113 (110, [some (.ref 1), some (.ref 8), some (.int j), some (.int x), some (.int y), some (.int b), some (.long w0), none, o8, o9, o10, o11], [.int (nQ 1)], kc + dk, ks + ds) τ') ∧
  ∀ (j : Int32) (w0 l9 : Int64) (i8 i11 : Int32) (o7 o10 : Option Value) kc ks, kc ≤ 600000 → ks ≤ 7300000 → RuM 113 (153, [some (.ref 1), some (.ref 8), some (.int j), some (.int x), some (.int y), some (.int b), some (.long w0), o7, some (.int i8), some (.long l9), o10, some (.int i11)], [.long w0], kc, ks) τ = RuM 113 (187, [some (.ref 1), some (.ref 8), some (.int j), some (.int x), some (.int y), some (.int b), some (.long w0), o7, some (.int i8), some (.long l9), o10, some (.int i11)], [], kc + dk, ks + ds) τ'
theorem st_ex {ng : Nat} (hI : InvF f n) (hG : GX f n T) (hGg : GX g ng T) (hT : T + 10 < 10000) (x y : Int32) {b : Int32} (hb : b = nQ 0 ∨ b = nQ 1) : ∃ f' n' dk ds, dk ≤ 1 ∧ ds ≤ 54 ∧ GX f' n' (T + 6) ∧ StepR x y b f f' g dk ds := by
  rcases hb with rfl | rfl
  · obtain ⟨m, f', n', hm, hG', hS⟩ := ad_ex hI hG hGg hT x y
    refine ⟨f', n', 0, 0, Nat.zero_le _, Nat.zero_le _, hG', fun τ H c h => ?_⟩
    obtain ⟨τ', x1, x2, x3⟩ := hS τ H c h
    refine ⟨τ', x2, F8_fr x3, ?_, ?_⟩
    · intro j w0 o6 o7 o8 o9 o10 o11 kc ks hc hs
      have c1 : kc ≤ 600086 := by omega
      have c2 : ks ≤ 7301442 := by omega
      rw [g113_78]
      simp (disch := omega) only [↓reduceIte, eq_self, al_3, c1, c2, Nat.le_refl, Nat.zero_le, true_and, and_true, x1, cn_l, Option.toList, List.cons_append, List.nil_append, nQ_lt, Nat.not_lt_zero, if_true, if_false, g113_102, Nat.add_zero]
    · intro j w0 l9 i8 i11 o7 o10 kc ks hc hs
      have c1 : kc ≤ 600086 := by omega
      have c2 : ks ≤ 7301442 := by omega
      rw [g113_153]
      simp (disch := omega) only [↓reduceIte, lg_0, eq_self, al_3, c1, c2, Nat.le_refl, Nat.zero_le, true_and, and_true, x1, cn_l, Option.toList, List.cons_append, List.nil_append, nQ_lt, Nat.not_lt_zero, if_true, if_false, g113_184, Nat.add_zero]
  · obtain ⟨f', n', hG', hS⟩ := ck_ex hI hG (by omega) x y
    refine ⟨f', n', 1, 54, Nat.le_refl _, Nat.le_refl _, GX_T hG' (by omega), fun τ H c h => ?_⟩
    obtain ⟨τ', x1, x2, x3⟩ := hS τ H c g h
    refine ⟨τ', x2, x3, ?_, ?_⟩
    · intro j w0 o6 o7 o8 o9 o10 o11 kc ks hc hs
      have c1 : kc + 1 ≤ 600086 := by omega
      have c2 : ks + 54 ≤ 7301442 := by omega
      rw [g113_78]
      simp (disch := omega) only [↓reduceIte, q10, eq_self, al_3, c1, c2, Nat.le_refl, Nat.zero_le, true_and, and_true, x1, cn_l, Option.toList, List.cons_append, List.nil_append, if_true, if_false, g113_92]
    · intro j w0 l9 i8 i11 o7 o10 kc ks hc hs
      have c1 : kc + 1 ≤ 600086 := by omega
      have c2 : ks + 54 ≤ 7301442 := by omega
      rw [g113_153]
      simp (disch := omega) only [↓reduceIte, lg_0, q10, eq_self, al_3, c1, c2, Nat.le_refl, Nat.zero_le, true_and, and_true, x1, cn_l, Option.toList, List.cons_append, List.nil_append, if_true, if_false, g113_171]
/-- the turn's two ints -/
theorem lw_a (h1 : tkM τ 1 = (2, L)) (hL : L ≤ 260) {j kc ks : Nat} (hj : j < 44) (hc : kc ≤ 600000) (hs : ks ≤ 7300000) (o3 o4 o5 o6 o7 o8 o9 o10 o11 : Option Value) : ∃ x y b, (b = nQ 0 ∨ b = nQ 1) ∧ RuM 113 (27, [some (.ref 1), some (.ref 8), some (.int (nQ j)), o3, o4, o5, o6, o7, o8, o9, o10, o11], [], kc, ks) τ = RuM 113 (72, [some (.ref 1), some (.ref 8), some (.int (nQ j)), some (.int x), some (.int y), o5, o6, o7, o8, o9, o10, o11], [.int b], kc, ks) τ := by
  obtain ⟨x, hx⟩ := cell_c (xs := fun _ => 0) h1 hL (k := 2 * j) (by omega)
  obtain ⟨y, hy⟩ := cell_c (xs := fun _ => 0) h1 hL (k := 2 * j + 1) (by omega)
  have c1 : kc ≤ 600086 := by omega
  have c2 : ks ≤ 7301442 := by omega
  have K : ∃ b, (b = nQ 0 ∨ b = nQ 1) ∧ RuM 113 (50, [some (.ref 1), some (.ref 8), some (.int (nQ j)), some (.int x), o4, o5, o6, o7, o8, o9, o10, o11], [.int y], kc, ks) τ = RuM 113 (72, [some (.ref 1), some (.ref 8), some (.int (nQ j)), some (.int x), some (.int y), o5, o6, o7, o8, o9, o10, o11], [.int b], kc, ks) τ := by
    rw [g113_50]
    rcases Classical.propComplete (nQ j < nQ 6) with d1 | d1
    · refine ⟨nQ 1, Or.inr rfl, ?_⟩
      simp only [d1, if_true, g113_67]
    · rcases Classical.propComplete (nQ 0 < ((x >>> ((nQ 9) &&& nQ 31)) &&& (nQ 3))) with d2 | d2
      · refine ⟨nQ 1, Or.inr rfl, ?_⟩
        simp only [d1, d2, if_true, if_false, g113_67]
      · refine ⟨nQ 0, Or.inl rfl, ?_⟩
        simp only [d1, d2, if_false]
  obtain ⟨b, hb, hK⟩ := K
  refine ⟨x, y, b, hb, ?_⟩
  rw [← hK, g113_27]
  simp (disch := omega) only [↓reduceIte, nQ_lt, hj, al_2, c1, c2, Nat.le_refl, Nat.zero_le, true_and, and_true, nQ_mul, nQ_add, hx, hy, cn_l, Option.toList, List.cons_append, List.nil_append, if_true, g113_40]
/-- the turn's act, undone and done again or not -/
theorem lw_b {ng : Nat} (hw : RW τ f H c g) (hG : GX f n T) (hGg : GX g ng T) (hT : T + 10 < 10000) {j kc ks : Nat} {x y b : Int32} (hb : b = nQ 0 ∨ b = nQ 1) (hc : kc ≤ 500000) (hs : ks ≤ 7200000) (o5 o6 o7 o8 o9 o10 o11 : Option Value) : ∃ τ' f' H' c' n' kc' ks' l6 l9 i11 o7' o10', kc' ≤ kc + 2 ∧ ks' ≤ ks + 108 ∧ GX f' n' (T + 6) ∧ RW τ' f' H' c' g ∧ Fr8 τ τ' ∧ RuM 113 (72, [some (.ref 1), some (.ref 8), some (.int (nQ j)), some (.int x), some (.int y), o5, o6, o7, o8, o9, o10, o11], [.int b], kc, ks) τ = RuM 113 (204, [some (.ref 1), some (.ref 8), some (.int (nQ j)), some (.int x), some (.int y), some (.int b), some (.long l6), o7', some (.int (nQ 1)), some (.long l9), o10', some (.int i11)], [], kc', ks') τ' := by
  obtain ⟨f', n', dk, ds, hdk, hds, hG', hS⟩ := st_ex (IF_w hw.1 hG) hG hGg hT x y hb
  have hc6 : c ≤ 6 := hw.1.2.1
  have hcu : csN c = cuN c + 1 := by unfold csN cuN; split <;> omega
  obtain ⟨e, he, h12⟩ := ev_ex hw.1
  have T0 := td_c hw.1 hG.2.1 hG.2.2 he h12
  obtain ⟨τ1, w1, f1, s1, -⟩ := hS τ H c hw
  obtain ⟨e', he', h12'⟩ := ev_ex w1.1
  have T1 := td_c w1.1 hG'.2.1 hG'.2.2 he' h12'
  have sv := q85 w1.1
  rw [hcu] at w1 sv
  obtain ⟨τ2, u1, w2, f2⟩ := o58 w1
  rw [show hpF H c f (cuN c) = f from if_pos rfl] at w2
  have T2 := td_c w2.1 hG.2.1 hG.2.2 he h12
  obtain ⟨τ3, w3, f3, -, s3⟩ := hS τ2 _ _ w2
  have T3 := td_c w3.1 hG'.2.1 hG'.2.2 he' h12'
  have k1 : tkM τ1 8 = (1, 4) := w1.1.1.1.1.1
  have c1 : kc ≤ 600086 := by omega
  have c2 : ks ≤ 7301442 := by omega
  have c3 : kc + dk ≤ 600086 := by omega
  have c4 : ks + ds ≤ 7301442 := by omega
  have c5 : kc + dk + dk ≤ 600086 := by omega
  have c6 : ks + ds + ds ≤ 7301442 := by omega
  have s1 := fun o6 o7 o8 o9 o10 o11 => s1 (nQ j) (tdF f n e) o6 o7 o8 o9 o10 o11 kc ks (by omega) (by omega)
  have s3 := fun i8 i11 o7 o10 => s3 (nQ j) (tdF f n e) (tdF f' n' e') i8 i11 o7 o10 (kc + dk) (ks + ds) (by omega) (by omega)
  have E1 : RuM 113 (72, [some (.ref 1), some (.ref 8), some (.int (nQ j)), some (.int x), some (.int y), o5, o6, o7, o8, o9, o10, o11], [.int b], kc, ks) τ = RuM 113 (122, [some (.ref 1), some (.ref 8), some (.int (nQ j)), some (.int x), some (.int y), some (.int b), some (.long (tdF f n e)), none, some (.int (nQ 1)), some (.long (tdF f' n' e')), none, o11], [.int (nQ (cuN c + 1))], kc + dk, ks + ds) τ1 := by
    rw [g113_72]
    simp only [↓reduceIte, al_1, c1, c2, c3, c4, Nat.le_refl, Nat.zero_le, true_and, and_true, T0, T1, s1, sv, k1, cn_l, Option.toList, List.cons_append, List.nil_append, if_true, g113_110, g113_116]
  have F1 : Fr8 τ τ1 := f1
  rcases Classical.propComplete (((x >>> ((nQ 11) &&& nQ 31)) &&& (nQ 3)) = nQ 0) with d | d
  · refine ⟨τ3, f', _, _, n', kc + dk + dk, ks + ds + ds, tdF f n e, tdF f' n' e', nQ (cuN c), none, none, by omega, by omega, hG', w3, F8_tr F1 (F8_tr (F8_fr f2) f3), ?_⟩
    rw [E1, g113_122]
    simp (disch := omega) only [↓reduceIte, q10, d, al_1, c3, c4, c5, c6, Nat.le_refl, Nat.zero_le, true_and, and_true, k1, u1, T2, s3, T3, lg_0, nQ_sub, Nat.add_sub_cancel, eq_self, cn_l, Option.toList, List.cons_append, List.nil_append, if_true, if_false, g113_144, g113_187, g113_191, g113_202]
  · refine ⟨τ1, f', _, _, n', kc + dk, ks + ds, tdF f n e, tdF f' n' e', nQ (cuN c), none, none, by omega, by omega, hG', w1, F1, ?_⟩
    rw [E1, g113_122]
    simp (disch := omega) only [↓reduceIte, q10, d, nQ_sub, Nat.add_sub_cancel, if_false]
/-- the turn's end -/
theorem lw_c {ng : Nat} (hw : RW τ f H c g) (hG : GX f n T) (hGg : GX g ng T) (hT : T < 10000) {j kc ks : Nat} {x y b i11 : Int32} {l6 l9 : Int64} {o7 o10 : Option Value} (hj : j < 44) (hc : kc ≤ 500000) (hs : ks ≤ 7200000) : ∃ τ' g' ng' kc' ks' i8, kc' ≤ kc + 1 ∧ ks' ≤ ks + 4 ∧ GX g' ng' T ∧ RW τ' f H c g' ∧ Fr8 τ τ' ∧ RuM 113 (204, [some (.ref 1), some (.ref 8), some (.int (nQ j)), some (.int x), some (.int y), some (.int b), some (.long l6), o7, some (.int (nQ 1)), some (.long l9), o10, some (.int i11)], [], kc, ks) τ = RuM 113 (27, [some (.ref 1), some (.ref 8), some (.int (nQ (j + 1))), some (.int x), some (.int y), some (.int b), some (.long l6), o7, some (.int i8), some (.long l9), o10, some (.int i11)], [], kc', ks') τ' := by
  have A : ∃ τ1 kc' ks', kc' ≤ kc + 1 ∧ ks' ≤ ks + 4 ∧ RW τ1 f H c g ∧ Fr8 τ τ1 ∧ RuM 113 (204, [some (.ref 1), some (.ref 8), some (.int (nQ j)), some (.int x), some (.int y), some (.int b), some (.long l6), o7, some (.int (nQ 1)), some (.long l9), o10, some (.int i11)], [], kc, ks) τ = RuM 113 (222, [some (.ref 1), some (.ref 8), some (.int (nQ j)), some (.int x), some (.int y), some (.int b), some (.long l6), o7, some (.int (nQ 1)), some (.long l9), o10, some (.int i11)], [], kc', ks') τ1 := by
    rw [g113_204]
    rcases Classical.propComplete (nQ 0 < (nQ j - nQ j / (nQ 3) * (nQ 3))) with d | d
    · refine ⟨τ, kc, ks, by omega, by omega, hw, F8_rfl τ, ?_⟩
      simp only [q10, d, if_true, if_false]
    · obtain ⟨τ1, x1, x2, x3⟩ := hold_c (IF_w hw.1 hG) hG (by omega) hw
      refine ⟨τ1, kc + 1, ks + 4, Nat.le_refl _, Nat.le_refl _, x2, x3, ?_⟩
      have c1 : kc + 1 ≤ 600086 := by omega
      have c2 : ks + 4 ≤ 7301442 := by omega
      simp only [↓reduceIte, q10, d, al_1, c1, c2, Nat.le_refl, Nat.zero_le, true_and, and_true, x1, cn_l, Option.toList, List.cons_append, List.nil_append, if_true, if_false, g113_219]
  obtain ⟨τ1, kc1, ks1, b1, b2, w1, f1, e1⟩ := A
  have k1 : tkM τ1 8 = (1, 4) := w1.1.1.1.1.1
  have c1 : kc1 ≤ 600086 := by omega
  have c2 : ks1 ≤ 7301442 := by omega
  rcases Classical.propComplete ((nQ j - nQ j / (nQ 13) * (nQ 13)) = (nQ 8)) with d | d
  · obtain ⟨τ2, x1, w2, f2⟩ := o59 w1.1
    have k2 : tkM τ2 8 = (1, 4) := w2.1.1.1.1.1
    have q := q78 w2.1 hG.2.1 hG.2.2
    have e12 : (1 ≤ 2) = True := eq_true (by decide)
    have e18 : (1 ≤ 8) = True := eq_true (by decide)
    refine ⟨τ2, f, n, kc1, ks1, nQ 1, b1, b2, hG, w2, F8_tr f1 (F8_fr f2), ?_⟩
    rw [e1, g113_222]
    simp only [↓reduceIte, d, k1, k2, al_1, al_2, c1, c2, e12, e18, eq_self, Nat.le_refl, Nat.zero_le, true_and, and_true, x1, q, q10, nQ_add, cn_l, Option.toList, List.cons_append, List.nil_append, if_true, if_false, g113_236, g113_240, g113_243, g113_248]
  · refine ⟨τ1, g, ng, kc1, ks1, nQ 1, b1, b2, hGg, w1, f1, ?_⟩
    rw [e1, g113_222]
    simp only [↓reduceIte, d, q10, nQ_add, if_true, if_false, g113_243, g113_248]
def LwI (L j kc ks : Nat) (τ : Mem) : Prop := kc ≤ 179 + 3 * j ∧ ks ≤ 4042 + 112 * j ∧ tkM τ 1 = (2, L) ∧ ∃ f H c g n ng, RW τ f H c g ∧ GX f n (6 * j) ∧ GX g ng (6 * j)
theorem lw_loop (hL : L ≤ 260) : ∀ (m j kc ks : Nat) (τ : Mem) (o3 o4 o5 o6 o7 o8 o9 o10 o11 : Option Value), j + m = 44 → LwI L j kc ks τ → ∃ τ', RuM 113 (27, [some (.ref 1), some (.ref 8), some (.int (nQ j)), o3, o4, o5, o6, o7, o8, o9, o10, o11], [], kc, ks) τ = some (.inl (some (.int (nQ 1))), τ') := by
  intro m
  induction m with
  | zero =>
    intro j kc ks τ o3 o4 o5 o6 o7 o8 o9 o10 o11 e h
    obtain rfl : j = 44 := e
    obtain ⟨h1, h2, h3, f, H, c, g, n, ng, hw, hG, hGg⟩ := h
    obtain ⟨τ1, x1, x2, x3⟩ := hold_c (IF_w hw.1 hG) hG (by omega) hw
    have c1 : kc + 1 ≤ 600086 := by omega
    have c2 : ks + 4 ≤ 7301442 := by omega
    refine ⟨τ1, ?_⟩
    rw [g113_27]
    simp (disch := omega) only [↓reduceIte, nQ_lt, Nat.lt_irrefl, al_1, c1, c2, Nat.le_refl, Nat.zero_le, true_and, and_true, x1, cn_l, Option.toList, List.cons_append, List.nil_append, if_true, if_false, g113_267, eq_self, or_true]
  | succ m ih =>
    intro j kc ks τ o3 o4 o5 o6 o7 o8 o9 o10 o11 e h
    obtain ⟨h1, h2, h3, f, H, c, g, n, ng, hw, hG, hGg⟩ := h
    obtain ⟨x, y, b, hb, e1⟩ := lw_a h3 hL (j := j) (by omega) (kc := kc) (ks := ks) (by omega) (by omega) o3 o4 o5 o6 o7 o8 o9 o10 o11
    obtain ⟨τ1, f1, H1, c1, n1, kc1, ks1, l6, l9, i11, o7', o10', a1, a2, a3, a4, a5, e2⟩ := lw_b hw hG hGg (by omega) (j := j) (kc := kc) (ks := ks) (x := x) (y := y) hb (by omega) (by omega) o5 o6 o7 o8 o9 o10 o11
    obtain ⟨τ2, g2, ng2, kc2, ks2, i8, b1, b2, b3, b4, b5, e3⟩ := lw_c a4 a3 (GX_T hGg (by omega)) (by omega) (j := j) (kc := kc1) (ks := ks1) (x := x) (y := y) (b := b) (i11 := i11) (l6 := l6) (l9 := l9) (o7 := o7') (o10 := o10') (by omega) (by omega) (by omega)
    obtain ⟨τ', e4⟩ := ih (j + 1) kc2 ks2 τ2 _ _ _ _ _ _ _ _ _ (by omega) ⟨by omega, by omega, by rw [(b5 1 (by decide)).1, (a5 1 (by decide)).1]; exact h3, f1, H1, c1, g2, n1, ng2, b4, a3, b3⟩
    exact ⟨τ', e1.trans (e2.trans (e3.trans e4))⟩
theorem GX_0 : GX s0F 0 0 := by
  refine ⟨⟨⟨0, Nat.le_refl 0, s0_lo (by decide) (by decide) (by decide), fun k hk => Or.inl (s0_m (by omega) (by omega))⟩, fun i hi => absurd hi (Nat.not_lt_zero i), fun k hk h => absurd (s0_lo (by omega) (by omega) (by omega)) h.1, fun r hr => ⟨7, by decide, by decide, ?_⟩⟩, s0_lo (by decide) (by decide) (by decide), by decide⟩
  unfold s0F
  rw [if_pos (by omega)]
end Lw
theorem law_run (L : Nat) (xs : Nat → Int32) (hL : L ≤ 260) : ∃ σ', DoM 113 [.ref 1] (m0M L xs) = some (.inl (some (.int 1)), σ') := by
  obtain ⟨τ, x1, x2, x3, x4⟩ := RV_0 L xs
  have k0 : tkM (nwM (m0M L xs) 1 4) 8 = (1, 4) := rfl
  have k1 : tkM τ 8 = (1, 4) := (x4 (fun _ => s0F)).1.1.1.1
  obtain ⟨τ1, y1, w1, f1⟩ := o59 (x4 (fun _ => s0F))
  rw [s0_lo (by decide) (by decide) (by decide)] at y1
  obtain ⟨τ2, z1, w2, f2⟩ := hold_c (IF_w w1.1 GX_0) GX_0 (by decide) w1
  have h1 : tkM τ2 1 = (2, L) := by rw [(f2 1 (by decide)).1, (F8_fr f1 1 (by decide)).1]; exact x2.1.1
  obtain ⟨τ', e⟩ := lw_loop hL 44 0 179 4042 τ2 none none none none none none none none none rfl ⟨by omega, by omega, h1, s0F, _, _, s0F, 0, 0, w2, GX_0, GX_0⟩
  refine ⟨τ', ?_⟩
  rw [show (1 : Int32) = nQ 1 from rfl, ← e]
  refine (g113_0).trans ?_
  rw [show nxM (m0M L xs) = 8 from rfl]
  simp only [↓reduceIte, k0, k1, x1, y1, z1, q10, cn_l, Option.toList, List.cons_append, List.nil_append, if_true, if_false, g113_3, g113_7, g113_13, g113_20]
