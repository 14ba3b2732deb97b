/-! The law's administration: its run. -/
theorem cx_le (f : Nat → Int32) : ∀ k, cxN f k ≤ k
  | 0 => Nat.le_refl 0
  | k + 1 => by
    have := cx_le f k
    rw [cx_s]
    split <;> omega
theorem ed_le (f : Nat → Int32) : ∀ k, edC f k ≤ k
  | 0 => Nat.le_refl 0
  | k + 1 => by
    have := ed_le f k
    rw [edC_s]
    split <;> omega
theorem dyC_le (f : Nat → Int32) : ∀ m, dyC f m ≤ 18 * m
  | 0 => Nat.le_refl 0
  | m + 1 => by
    have := dyC_le f m
    have := ed_le (up (dyR f m) 0 (dyR f m 0 + nQ 1)) 18
    rw [dyC_s]
    omega
theorem sh12 (y : Int32) (k : Nat) : y >>> (nQ k &&& nQ 31) = y >>> (nQ k &&& nQ 31) := rfl
section Ad
variable {f g : Nat → Int32} {n T : Nat}
theorem ad_pre {τ : Mem} (w1 : tkM τ 8 = (1, 4)) (x y : Int32) : ∃ r, r ≤ 1 ∧ ∀ τ, DoM 110 [.ref 8, .int x, .int y] τ = RuM 110 (30, [some (.ref 8), some (.int x), some (.int y), some (.int (nQ (upN y 9))), some (.int (nQ r)), none], [.int (nQ (upN x 8))], 0, 0) τ := by
  have l3 := up_lt (y >>> (nQ 4 &&& nQ 31)) (n := 3) (by decide)
  have u9 := fun τ => up_c (σ := τ) y (n := 9) (by decide) (by decide)
  have u3 := fun τ => up_c (σ := τ) (y >>> (nQ 4 &&& nQ 31)) (n := 3) (by decide) (by decide)
  have u8 := fun τ => up_c (σ := τ) x (n := 8) (by decide) (by decide)
  have s0 : (nQ (upN (y >>> (nQ 4 &&& nQ 31)) 3) = nQ 0) = (upN (y >>> (nQ 4 &&& nQ 31)) 3 = 0) := nQ_eq (by omega) (by decide)
  rcases Classical.propComplete (upN (y >>> (nQ 4 &&& nQ 31)) 3 = 0) with c | c
  · refine ⟨1, Nat.le_refl 1, fun τ => (g110_0).trans ?_⟩
    simp only [u9, u3, u8, s0, c, if_true, cn_l, Option.toList, List.cons_append, List.nil_append, g110_6, g110_14, g110_22]
  · refine ⟨0, Nat.zero_le 1, fun τ => (g110_0).trans ?_⟩
    simp only [u9, u3, u8, s0, c, if_false, cn_l, Option.toList, List.cons_append, List.nil_append, g110_6, g110_14, g110_22]
theorem ad_ex {ng : Nat} (hI : InvF f n) (hG : GX f n T) (hGg : GX g ng T) (hT : T + 10 < 10000) (x y : Int32) : ∃ m f' n', m < 1000000 ∧ GX f' n' (T + 6) ∧ ∀ τ H c, RW τ f H c g → OpR τ 110 [.int x, .int y] (nQ m) f' g (hpF H c f) (csN c) := by
  have hn := hG.2.1
  have h60 := hG.2.2
  have la := up_lt y (n := 9) (by decide)
  have l8 := up_lt x (n := 8) (by decide)
  obtain ⟨⟨⟨t, ht, hY⟩, hK, hC, hL⟩, -⟩ := id hG
  have nd : ∀ z, 1 ≤ z → z ≤ 6 → ¬ nQ 10000 < f 0 + nQ z := fun z h1 h2 => by
    rw [hY.1, nQ_add, nQ_lt (by decide) (by omega)]
    omega
  have days : ∀ z, 1 ≤ z → z ≤ 6 → dyC f z < 1000000 ∧ GX (dyR f z) n (T + 6) ∧ ∀ τ H c, RW τ f H c g → OpR τ 53 [.int (nQ z)] (nQ (dyC f z)) (dyR f z) g (hpF H c f) (csN c) := fun z h1 h2 => by
    have := dyC_le f z
    exact ⟨by omega, GX_T (GX_dy hG z) (by omega), fun τ H c h => o53 h hn h60 h1 (by omega) (nd z h1 h2)⟩
  obtain ⟨r, hr, hpre⟩ := ad_pre (τ := nwM (m0M 0 f) 1 4) (by
    have := tk_nw (m0M 0 f) 1 4
    exact this) x y
  have u2 := fun τ => up_c (σ := τ) y (n := 2) (by decide) (by decide)
  have u6 := fun τ => up_c (σ := τ) y (n := 6) (by decide) (by decide)
  have u12 := fun τ => up_c (σ := τ) (y >>> (nQ 1 &&& nQ 31)) (n := 12) (by decide) (by decide)
  have u4 := fun τ => up_c (σ := τ) (y >>> (nQ 7 &&& nQ 31)) (n := 4) (by decide) (by decide)
  have s : ∀ k, k < 8 → (nQ (upN x 8) = nQ k) = (upN x 8 = k) := fun k hk => nQ_eq (by omega) (by omega)
  have s0 := s 0 (by decide)
  have s1 := s 1 (by decide)
  have s2 := s 2 (by decide)
  have s3 := s 3 (by decide)
  have s4 := s 4 (by decide)
  have s5 := s 5 (by decide)
  clear s
  have hk : 2 * upN y 9 + r < 18 := by omega
  by_cases c0 : upN x 8 = 0
  · -- the length of a grace period
    have l2 := up_lt y (n := 2) (by decide)
    have l12 := up_lt (y >>> (nQ 1 &&& nQ 31)) (n := 12) (by decide)
    obtain ⟨gg, g1, g2, g3⟩ := hL (upN y 2) l2
    refine ⟨gg, up f (1 + upN y 2) (nQ (1 + upN (y >>> (nQ 1 &&& nQ 31)) 12)), n, by omega, GX_T (GX_gl hG l2 (by omega) (by omega)) (by omega), fun τ H c h => ?_⟩
    obtain ⟨τ', o1, o2, o3⟩ := o50 h hn h60 (r := upN y 2) (z := 1 + upN (y >>> (nQ 1 &&& nQ 31)) 12) (by omega) (by omega) (by omega)
    rw [g3] at o1
    refine ⟨τ', ?_, o2, o3⟩
    have w1 : tkM τ 8 = (1, 4) := h.1.1.1.1.1
    have t0 : (upN x 8 = 0) = True := eq_true c0
    rw [hpre, g110_30]
    simp only [s0, t0, u2, u12, w1, nQ_add, o1, if_true, cn_l, Option.toList, List.cons_append, List.nil_append, g110_74, g110_83, g110_87]
  · have f0 : (upN x 8 = 0) = False := eq_false c0
    by_cases c1 : upN x 8 = 1
    · -- an exemption
      have l6 := up_lt y (n := 6) (by decide)
      obtain ⟨m, hm64, hm3⟩ := hI.1.2.2.1
      obtain ⟨e, he⟩ : ∃ e : Bool, (((y >>> (nQ 5 &&& nQ 31)) &&& nQ 3) = nQ 0 ↔ e = true) := ⟨decide (((y >>> (nQ 5 &&& nQ 31)) &&& nQ 3) = nQ 0), by simp⟩
      have := cx_le (up f 3 (nQ (mkN m (upN y 6) e))) 6
      refine ⟨cxN (up f 3 (nQ (mkN m (upN y 6) e))) 6, up f 3 (nQ (mkN m (upN y 6) e)), n, by omega, GX_T (GX_ex hG _) (by omega), fun τ H c h => ?_⟩
      obtain ⟨τ', o1, o2, o3⟩ := o52 h hn h60 (u := upN y 6) l6 hm3 hm64 e
      refine ⟨τ', ?_, o2, o3⟩
      have w1 : tkM τ 8 = (1, 4) := h.1.1.1.1.1
      have t1 : (upN x 8 = 1) = True := eq_true c1
      rw [hpre, g110_30]
      simp only [s0, f0, s1, t1, u6, if_true, if_false, cn_l, Option.toList, List.cons_append, List.nil_append]
      rw [g110_95]
      cases e with
      | true =>
        have q : ((y >>> (nQ 5 &&& nQ 31)) &&& nQ 3) = nQ 0 := he.mpr rfl
        simp only [if_true] at o1
        simp only [q, if_true, w1, o1, cn_l, Option.toList, List.cons_append, List.nil_append, g110_108, g110_111]
      | false =>
        have q : ¬ ((y >>> (nQ 5 &&& nQ 31)) &&& nQ 3) = nQ 0 := fun z => by cases he.mp z
        simp only [Bool.false_eq_true, if_false] at o1
        simp only [q, if_true, if_false, w1, o1, cn_l, Option.toList, List.cons_append, List.nil_append, g110_108, g110_111]
    · have f1 : (upN x 8 = 1) = False := eq_false c1
      by_cases c2 : upN x 8 = 2
      · -- a grace period begins again
        have t2 : (upN x 8 = 2) = True := eq_true c2
        rcases hY.2 _ hk with hst | ⟨s, hs, hst⟩
        · obtain ⟨d1, d2, d3⟩ := days 1 (by decide) (by decide)
          refine ⟨dyC f 1, dyR f 1, n, d1, d2, fun τ H c h => ?_⟩
          obtain ⟨τ', o1, o2, o3⟩ := d3 τ H c h
          refine ⟨τ', ?_, o2, o3⟩
          have w1 : tkM τ 8 = (1, 4) := h.1.1.1.1.1
          have q := q65 h.1 hn h60 (a := upN y 9) (r := r) (by omega) hr
          rw [show 281 + 2 * upN y 9 + r = 281 + (2 * upN y 9 + r) by omega, hst] at q
          have q2 : ((-1 : Int32) < nQ 0) = True := eq_true (by decide)
          rw [hpre, g110_30]
          simp only [s0, f0, s1, f1, s2, t2, w1, q, q2, o1, if_true, if_false, cn_l, Option.toList, List.cons_append, List.nil_append, g110_119, g110_127, g110_137]
        · refine ⟨s, up f (281 + (2 * upN y 9 + r)) (f 0), n, by omega, GX_T (GX_st (by omega) hG hk) (by omega), fun τ H c h => ?_⟩
          have ea : 281 + 2 * upN y 9 + r = 281 + (2 * upN y 9 + r) := by omega
          obtain ⟨τ', o1, o2, o3⟩ := o51 h hn h60 (a := upN y 9) (r := r) (by omega) hr (by rw [ea, hst]; exact nQ_m1' (by omega))
          rw [ea, hst] at o1
          rw [ea] at o2
          refine ⟨τ', ?_, o2, o3⟩
          have w1 : tkM τ 8 = (1, 4) := h.1.1.1.1.1
          have q := q65 h.1 hn h60 (a := upN y 9) (r := r) (by omega) hr
          rw [ea, hst] at q
          have q2 : (nQ s < nQ 0) = False := by rw [nQ_lt (by omega) (by decide)]; exact eq_false (by omega)
          rw [hpre, g110_30]
          simp only [s0, f0, s1, f1, s2, t2, w1, q, q2, o1, if_true, if_false, cn_l, Option.toList, List.cons_append, List.nil_append, g110_119, g110_137]
      · have f2 : (upN x 8 = 2) = False := eq_false c2
        by_cases c34 : upN x 8 = 3 ∨ upN x 8 = 4
        · -- days pass
          have l6 := up_lt y (n := 6) (by decide)
          obtain ⟨d1, d2, d3⟩ := days (1 + upN y 6) (by omega) (by omega)
          refine ⟨dyC f (1 + upN y 6), dyR f (1 + upN y 6), n, d1, d2, fun τ H c h => ?_⟩
          obtain ⟨τ', o1, o2, o3⟩ := d3 τ H c h
          refine ⟨τ', ?_, o2, o3⟩
          have w1 : tkM τ 8 = (1, 4) := h.1.1.1.1.1
          rw [hpre, g110_30]
          rcases c34 with c3 | c4
          · have t3 : (upN x 8 = 3) = True := eq_true c3
            simp only [s0, f0, s1, f1, s2, f2, s3, t3, w1, u6, nQ_add, o1, if_true, if_false, cn_l, Option.toList, List.cons_append, List.nil_append, g110_138, g110_146, g110_150]
          · have f3 : (upN x 8 = 3) = False := eq_false (by omega)
            have t4 : (upN x 8 = 4) = True := eq_true c4
            simp only [s0, f0, s1, f1, s2, f2, s3, f3, s4, t4, w1, u6, nQ_add, o1, if_true, if_false, cn_l, Option.toList, List.cons_append, List.nil_append, g110_138, g110_146, g110_150]
        · have f3 : (upN x 8 = 3) = False := eq_false (fun z => c34 (Or.inl z))
          have f4 : (upN x 8 = 4) = False := eq_false (fun z => c34 (Or.inr z))
          by_cases c5 : upN x 8 = 5
          · have t5 : (upN x 8 = 5) = True := eq_true c5
            by_cases cy : (y &&& nQ 3) = nQ 0
            · -- the first slot comes back
              obtain ⟨⟨⟨tg, htg, hYg⟩, -⟩, -⟩ := id hGg
              refine ⟨tg, g, ng, by omega, GX_T hGg (by omega), fun τ H c h => ?_⟩
              obtain ⟨τ', o1, o2, o3⟩ := o60 h
              rw [hYg.1] at o1
              refine ⟨τ', ?_, o2, o3⟩
              have w1 : tkM τ 8 = (1, 4) := h.1.1.1.1.1
              rw [hpre, g110_30]
              simp only [s0, f0, s1, f1, s2, f2, s3, f3, s4, f4, s5, t5, cy, w1, o1, if_true, if_false, cn_l, Option.toList, List.cons_append, List.nil_append, g110_162, g110_170]
            · obtain ⟨d1, d2, d3⟩ := days 1 (by decide) (by decide)
              refine ⟨dyC f 1, dyR f 1, n, d1, d2, fun τ H c h => ?_⟩
              obtain ⟨τ', o1, o2, o3⟩ := d3 τ H c h
              refine ⟨τ', ?_, o2, o3⟩
              have w1 : tkM τ 8 = (1, 4) := h.1.1.1.1.1
              rw [hpre, g110_30]
              simp only [s0, f0, s1, f1, s2, f2, s3, f3, s4, f4, s5, t5, cy, w1, o1, if_true, if_false, cn_l, Option.toList, List.cons_append, List.nil_append, g110_170]
          · -- limits
            have f5 : (upN x 8 = 5) = False := eq_false c5
            have l4 := up_lt (y >>> (nQ 7 &&& nQ 31)) (n := 4) (by decide)
            obtain ⟨hd, hhd, hX⟩ : ∃ hd, hd ≤ 9000 ∧ ∀ τ, RuM 110 (179, [some (.ref 8), some (.int x), some (.int y), some (.int (nQ (upN y 9))), some (.int (nQ r)), none], [.int (nQ (upN (y >>> (nQ 7 &&& nQ 31)) 4))], 0, 0) τ = RuM 110 (209, [some (.ref 8), some (.int x), some (.int y), some (.int (nQ (upN y 9))), some (.int (nQ r)), none], [.int (nQ hd)], 0, 0) τ := by
              have e4 : (nQ (upN (y >>> (nQ 7 &&& nQ 31)) 4) = nQ 0) = (upN (y >>> (nQ 7 &&& nQ 31)) 4 = 0) := nQ_eq (by omega) (by decide)
              rcases Classical.propComplete (upN (y >>> (nQ 7 &&& nQ 31)) 4 = 0) with c | c
              · refine ⟨0, by decide, fun τ => ?_⟩
                rw [g110_179]
                simp only [e4, c, if_true]
              · by_cases cr : r = 1
                · subst cr
                  have l7 := up_lt (y >>> (nQ 9 &&& nQ 31)) (n := 7) (by decide)
                  have u7 := fun τ => up_c (σ := τ) (y >>> (nQ 9 &&& nQ 31)) (n := 7) (by decide) (by decide)
                  refine ⟨1 + upN (y >>> (nQ 9 &&& nQ 31)) 7, by omega, fun τ => ?_⟩
                  rw [g110_179]
                  simp only [e4, c, if_true, if_false, u7, nQ_add, cn_l, Option.toList, List.cons_append, List.nil_append, g110_205, g110_208]
                · have r0 : r = 0 := by omega
                  subst r0
                  have l7 := up_lt (y >>> (nQ 9 &&& nQ 31)) (n := 9000) (by decide)
                  have u7 := fun τ => up_c (σ := τ) (y >>> (nQ 9 &&& nQ 31)) (n := 9000) (by decide) (by decide)
                  have n01 : (nQ 0 = nQ 1) = False := by rw [nQ_eq (by decide) (by decide)]; exact eq_false (by decide)
                  refine ⟨1 + upN (y >>> (nQ 9 &&& nQ 31)) 9000, by omega, fun τ => ?_⟩
                  rw [g110_179]
                  simp only [e4, c, n01, if_false, u7, nQ_add, cn_l, Option.toList, List.cons_append, List.nil_append, g110_205, g110_208]
            obtain ⟨so, hso, hso2, hX2⟩ : ∃ so, so ≤ 9000 ∧ (so = 0 ∨ hd = 0 ∨ so ≤ hd) ∧ ∀ τ, RuM 110 (209, [some (.ref 8), some (.int x), some (.int y), some (.int (nQ (upN y 9))), some (.int (nQ r)), none], [.int (nQ hd)], 0, 0) τ = RuM 110 (237, [some (.ref 8), some (.int x), some (.int y), some (.int (nQ (upN y 9))), some (.int (nQ r)), some (.int (nQ hd))], [.int (nQ so), .int (nQ r), .int (nQ (upN y 9)), .ref 8], 0, 0) τ := by
              have e4 : (nQ hd = nQ 0) = (hd = 0) := nQ_eq (by omega) (by decide)
              rcases Classical.propComplete (hd = 0) with c | c
              · have l7 := up_lt (y >>> (nQ 12 &&& nQ 31)) (n := 400) (by decide)
                have u7 := fun τ => up_c (σ := τ) (y >>> (nQ 12 &&& nQ 31)) (n := 400) (by decide) (by decide)
                refine ⟨upN (y >>> (nQ 12 &&& nQ 31)) 400, by omega, Or.inr (Or.inl (of_eq_true c)), fun τ => ?_⟩
                rw [g110_209]
                simp only [e4, c, if_true, u7, cn_l, Option.toList, List.cons_append, List.nil_append, g110_234]
              · have l7 := up_lt (y >>> (nQ 12 &&& nQ 31)) (n := hd + 1) (by omega)
                have u7 := fun τ => up_c (σ := τ) (y >>> (nQ 12 &&& nQ 31)) (n := hd + 1) (by omega) (by omega)
                refine ⟨upN (y >>> (nQ 12 &&& nQ 31)) (hd + 1), by omega, Or.inr (Or.inr (by omega)), fun τ => ?_⟩
                rw [g110_209]
                simp only [e4, c, if_false, nQ_add, u7, cn_l, Option.toList, List.cons_append, List.nil_append, g110_234]
            obtain ⟨U, hU1, hU2⟩ := us_N (f := f) (a := upN y 9) (r := r) la n hI.1.1
            refine ⟨U, slF f n (upN y 9) r (nQ so) (nQ hd), n, by omega, GX_T (GX_sl (by omega) hG la (by omega) _ _) (by omega), fun τ H c h => ?_⟩
            obtain ⟨τ', o1, o2, o3⟩ := o49 h hn h60 (a := upN y 9) (r := r) (s := so) (z := hd) (by omega) hr (by omega) (by omega) hso2
            rw [hU2] at o1
            refine ⟨τ', ?_, o2, o3⟩
            have w1 : tkM τ 8 = (1, 4) := h.1.1.1.1.1
            rw [hpre, g110_30]
            simp only [s0, f0, s1, f1, s2, f2, s3, f3, s4, f4, s5, f5, u4, if_false, cn_l, Option.toList, List.cons_append, List.nil_append]
            rw [hX, hX2, g110_237]
            simp only [w1, o1, if_true, cn_l, Option.toList, List.cons_append, List.nil_append, g110_242]
end Ad
