/-! Exemptions, undo, slots, the text's buffer, on both sides. -/
theorem fr_m : ∀ m, m < 64 → ∀ u, u < 6 → ((nQ m >>> (nQ u &&& nQ 31)) &&& nQ 1 = nQ 1 ↔ m / 2 ^ u % 2 = 1) := by decide +kernel
theorem sh_u : ∀ u, u < 6 → nQ 1 <<< (nQ u &&& nQ 31) = nQ (2 ^ u) := by decide +kernel
def mkN (m u : Nat) (e : Bool) : Nat := (if m / 2 ^ u % 2 = 1 then m - 2 ^ u else m) + if e = true then 2 ^ u else 0
theorem mk_m : ∀ m, m < 64 → ∀ u, u < 6 → ∀ e : Bool, mkN m u e < 64 ∧ (m / 2 ^ u % 2 = 1 → 2 ^ u ≤ m) ∧ ∀ v, v < 6 → (mkN m u e / 2 ^ v % 2 = 1 ↔ if v = u then e = true else m / 2 ^ v % 2 = 1) := by decide +kernel
def cxN (f : Nat → Int32) : Nat → Nat
  | 0 => 0
  | k + 1 => cxN f k + if frF f k then 1 else 0
theorem cx_s (f : Nat → Int32) (k : Nat) : cxN f (k + 1) = cxN f k + if frF f k then 1 else 0 := rfl
section Sv
variable {σ : Mem} {b : Nat} {d : Nat → Nat → Int32}
theorem m141_1 (h : ShM σ b) {v w : Int32} (hx : ¬ inP v (nQ 0) (nQ 5)) : DoM 141 [.ref b, .int v, .int w] (sB 7 σ b d) = some (.inl (some (.int (nQ 0))), sB 7 σ b (thF d 1)) := by
  have h0 := h.2.1
  refine (g141_0).trans ?_
  simp (disch := omega) only [m108, if_z, eq_false hx, aOk, eq_self, tk_sB, pr_sB, tk_wr, pr_wr, nQ_nat, nQ_neg, nQ_add, nQ_mul, nQ_lt, leF, ltT, ltF, rd_sB, rd_sB0, wr_sB, wr_sB0, cn_l, cn_r, Option.toList, List.cons_append, List.nil_append, if_true, if_false, true_and, and_true, or_false, false_or, true_or, or_true, not_false_eq_true, not_true_eq_false, and_false, false_and, zb_0, zb_1, q10, h0, m107 h, g141_5, g141_13, g141_16, g141_25, g141_37, g141_47, g141_49, g141_67, g141_69, g141_74, g141_88, g141_96]
theorem m141_0 (h : ShM σ b) {c m u : Nat} (hc : d 0 2 = nQ c) (h6 : c ≤ 6) (hm : d 1 3 = nQ m) (hm64 : m < 64) (hu : u < 6) (e : Bool) : DoM 141 [.ref b, .int (nQ u), .int (if e = true then nQ 1 else nQ 0)] (sB 7 σ b d) = some (.inl (some (.int (nQ (cxN (up (kpF (d 1) c) 3 (nQ (mkN m u e))) 6)))), sB 7 σ b (rX (kdF d c) 1 (up (kpF (d 1) c) 3 (nQ (mkN m u e))))) := by
  obtain ⟨h8, h0, ⟨p1, p2, p3, p4, p5, p6⟩, t1, t2, t3, t4, t5, t6⟩ := id h
  have hb : 8 ≤ b + 1 := by omega
  have hx : inP (nQ u) (nQ 0) (nQ 5) = True := eq_true (in_Q (by omega) (by decide))
  have e3 : kpF (d 1) c 3 = nQ m := (kp_lo _ c (by decide)).trans hm
  obtain ⟨k1, k2, k3⟩ := mk_m m hm64 u hu e
  have L : ∀ (r i : Nat) (w : Int32), i + r = 6 → RuM 141 (74, [some (.ref b), some (.int (nQ u)), some (.int w), some (.int (nQ (cxN (up (kpF (d 1) c) 3 (nQ (mkN m u e))) i))), some (.int (nQ i))], [], 0, 0) (sB 7 σ b (rX (kdF d c) 1 (up (kpF (d 1) c) 3 (nQ (mkN m u e))))) = some (.inl (some (.int (nQ (cxN (up (kpF (d 1) c) 3 (nQ (mkN m u e))) 6)))), sB 7 σ b (rX (kdF d c) 1 (up (kpF (d 1) c) 3 (nQ (mkN m u e))))) := by
    intro r
    induction r with
    | zero =>
      intro i w e'
      obtain rfl : i = 6 := e'
      rw [g141_74]
      simp (disch := omega) only [aOk, eq_self, tk_sB, pr_sB, tk_wr, pr_wr, nQ_nat, nQ_neg, nQ_add, nQ_mul, nQ_lt, leF, ltT, ltF, rd_sB, rd_sB0, wr_sB, wr_sB0, cn_l, cn_r, Option.toList, List.cons_append, List.nil_append, if_true, if_false, true_and, and_true, or_false, false_or, true_or, or_true, not_false_eq_true, not_true_eq_false, and_false, false_and, zb_0, zb_1, q10]
    | succ r ih =>
      intro i w e'
      have hi : i < 6 := by omega
      have ih' := fun w => ih (i + 1) w (by omega)
      rw [cx_s] at ih'
      have q : DoM 122 [.ref b, .int (nQ i)] (sB 7 σ b (rX (kdF d c) 1 (up (kpF (d 1) c) 3 (nQ (mkN m u e))))) = some (.inl (some (.int (if frF (up (kpF (d 1) c) 3 (nQ (mkN m u e))) i then nQ 1 else nQ 0))), sB 7 σ b (rX (kdF d c) 1 (up (kpF (d 1) c) 3 (nQ (mkN m u e))))) := m122 (d := rX (kdF d c) 1 (up (kpF (d 1) c) 3 (nQ (mkN m u e)))) h (nQ i)
      rw [g141_74]
      rcases Classical.propComplete (frF (up (kpF (d 1) c) 3 (nQ (mkN m u e))) i) with c1 | c1 <;> simp (disch := omega) only [aOk, eq_self, tk_sB, pr_sB, tk_wr, pr_wr, nQ_nat, nQ_neg, nQ_add, nQ_mul, nQ_lt, leF, ltT, ltF, rd_sB, rd_sB0, wr_sB, wr_sB0, cn_l, cn_r, Option.toList, List.cons_append, List.nil_append, if_true, if_false, true_and, and_true, or_false, false_or, true_or, or_true, not_false_eq_true, not_true_eq_false, and_false, false_and, zb_0, zb_1, q10, h0, q, c1, q10, g141_88, g141_96] at ih' ⊢ <;> exact ih' _
  have q : ∀ D : Nat → Nat → Int32, D 1 3 = nQ m → DoM 122 [.ref b, .int (nQ u)] (sB 7 σ b D) = some (.inl (some (.int (if m / 2 ^ u % 2 = 1 then nQ 1 else nQ 0))), sB 7 σ b D) := fun D hD => by
    have := m122 (d := D) h (nQ u)
    rw [hD] at this
    have e := propext (fr_m m hm64 u hu)
    simp only [e] at this
    exact this
  refine (g141_0).trans ?_
  simp (disch := omega) only [m108, if_z, hx, aOk, eq_self, tk_sB, pr_sB, tk_wr, pr_wr, nQ_nat, nQ_neg, nQ_add, nQ_mul, nQ_lt, leF, ltT, ltF, rd_sB, rd_sB0, wr_sB, wr_sB0, cn_l, cn_r, Option.toList, List.cons_append, List.nil_append, if_true, if_false, true_and, and_true, or_false, false_or, true_or, or_true, not_false_eq_true, not_true_eq_false, and_false, false_and, zb_0, zb_1, q10, h0, m107 h, g141_5, g141_13]
  rw [g141_16]
  simp (disch := omega) only [aOk, eq_self, tk_sB, pr_sB, tk_wr, pr_wr, nQ_nat, nQ_neg, nQ_add, nQ_mul, nQ_lt, leF, ltT, ltF, rd_sB, rd_sB0, wr_sB, wr_sB0, cn_l, cn_r, Option.toList, List.cons_append, List.nil_append, if_true, if_false, true_and, and_true, or_false, false_or, true_or, or_true, not_false_eq_true, not_true_eq_false, and_false, false_and, zb_0, zb_1, q10, h0, q10, mk133 h hc h6]
  have q1 := q (kdF d c) e3
  have e3' : kdF d c 1 3 = nQ m := e3
  have es := sh_u u hu
  have X : RuM 141 (25, [some (.ref b), some (.int (nQ u)), some (.int (if e = true then nQ 1 else nQ 0)), none, none], [], 0, 0) (sB 7 σ b (kdF d c)) = RuM 141 (49, [some (.ref b), some (.int (nQ u)), some (.int (if e = true then nQ 1 else nQ 0)), none, none], [], 0, 0) (sB 7 σ b (rX (kdF d c) 1 (up (kpF (d 1) c) 3 (nQ (if m / 2 ^ u % 2 = 1 then m - 2 ^ u else m))))) := by
    rw [g141_25]
    rcases Classical.propComplete (m / 2 ^ u % 2 = 1) with c1 | c1
    · have := k2 (of_eq_true c1)
      simp (disch := omega) only [aOk, tk_sB, pr_sB, h0, p1, t1, nQ_nat, nQ_neg, leF, rd_sB, hb, true_and, and_true, or_false, not_false_eq_true, if_true, if_false, cn_l, Option.toList, List.cons_append, List.nil_append, q1, c1, q10, e3', es, nQ_sub, wr_sB, g141_37, g141_47]
      rfl
    · simp (disch := omega) only [aOk, tk_sB, pr_sB, h0, p1, t1, nQ_nat, nQ_neg, leF, rd_sB, hb, true_and, and_true, or_false, not_false_eq_true, if_true, if_false, cn_l, Option.toList, List.cons_append, List.nil_append, q1, c1, q10, e3', es, nQ_sub, Nat.sub_zero, wr_sB, g141_37, g141_47]
      rfl
  have Y : RuM 141 (49, [some (.ref b), some (.int (nQ u)), some (.int (if e = true then nQ 1 else nQ 0)), none, none], [], 0, 0) (sB 7 σ b (rX (kdF d c) 1 (up (kpF (d 1) c) 3 (nQ (if m / 2 ^ u % 2 = 1 then m - 2 ^ u else m))))) = RuM 141 (69, [some (.ref b), some (.int (nQ u)), some (.int (if e = true then nQ 1 else nQ 0)), none, none], [], 0, 0) (sB 7 σ b (rX (kdF d c) 1 (up (kpF (d 1) c) 3 (nQ (mkN m u e))))) := by
    rw [g141_49]
    unfold mkN
    cases e with
    | true => simp (disch := omega) only [aOk, eq_self, tk_sB, pr_sB, tk_wr, pr_wr, nQ_nat, nQ_neg, nQ_add, nQ_mul, nQ_lt, leF, ltT, ltF, rd_sB, rd_sB0, wr_sB, wr_sB0, cn_l, cn_r, Option.toList, List.cons_append, List.nil_append, if_true, if_false, true_and, and_true, or_false, false_or, true_or, or_true, not_false_eq_true, not_true_eq_false, and_false, false_and, zb_0, zb_1, q10, h0, p1, t1, hb, rX_s, rX_r, up_s, up_up, q10, es, g141_67]
    | false => simp (disch := omega) only [aOk, eq_self, tk_sB, pr_sB, tk_wr, pr_wr, nQ_nat, nQ_neg, nQ_add, nQ_mul, nQ_lt, leF, ltT, ltF, rd_sB, rd_sB0, wr_sB, wr_sB0, cn_l, cn_r, Option.toList, List.cons_append, List.nil_append, if_true, if_false, true_and, and_true, or_false, false_or, true_or, or_true, not_false_eq_true, not_true_eq_false, and_false, false_and, zb_0, zb_1, q10, h0, p1, t1, hb, rX_s, rX_r, up_s, up_up, q10, es, Bool.false_eq_true, Nat.add_zero, g141_67]
  simp only [X, Y, g141_69]
  exact L 6 0 _ rfl
theorem c35 {f U : Nat → Int32} (h : ShS σ b) (hR : RlC d f U) : DoM 35 [.ref b] (sB 17 σ b d) = some (.inl (some (.int (nQ (cxN f 6)))), sB 17 σ b d) := by
  have L : ∀ (r i : Nat), i + r = 6 → RuM 35 (4, [some (.ref b), some (.int (nQ (cxN f i))), some (.int (nQ i))], [], 0, 0) (sB 17 σ b d) = some (.inl (some (.int (nQ (cxN f 6)))), sB 17 σ b d) := by
    intro r
    induction r with
    | zero =>
      intro i e
      obtain rfl : i = 6 := e
      rw [g35_4]
      simp (disch := omega) only [aOk, eq_self, tk_sB, pr_sB, tk_wr, pr_wr, nQ_nat, nQ_neg, nQ_add, nQ_mul, nQ_lt, leF, ltT, ltF, rd_sB, rd_sB0, wr_sB, wr_sB0, cn_l, cn_r, Option.toList, List.cons_append, List.nil_append, if_true, if_false, true_and, and_true, or_false, false_or, true_or, or_true, not_false_eq_true, not_true_eq_false, and_false, false_and, zb_0, zb_1, q10]
    | succ r ih =>
      intro i e
      have hi : i < 6 := by omega
      have ih' := ih (i + 1) (by omega)
      rw [cx_s] at ih'
      have ex := hR.1.2.2 i hi
      rw [g35_4]
      rcases Classical.propComplete (frF f i) with c1 | c1 <;> simp (disch := omega) only [aOk, eq_self, tk_sB, pr_sB, tk_wr, pr_wr, nQ_nat, nQ_neg, nQ_add, nQ_mul, nQ_lt, leF, ltT, ltF, rd_sB, rd_sB0, wr_sB, wr_sB0, cn_l, cn_r, Option.toList, List.cons_append, List.nil_append, if_true, if_false, true_and, and_true, or_false, false_or, true_or, or_true, not_false_eq_true, not_true_eq_false, and_false, false_and, zb_0, zb_1, q10, h.2.1.1, h.2.1.2.1, h.2.1.2.2, h.2.2.1.1, h.2.2.1.2.1, h.2.2.1.2.2.1, h.2.2.1.2.2.2.1, h.2.2.1.2.2.2.2.1, h.2.2.1.2.2.2.2.2.1, h.2.2.1.2.2.2.2.2.2.1, h.2.2.1.2.2.2.2.2.2.2.1, h.2.2.1.2.2.2.2.2.2.2.2, h.2.2.2.1.1, h.2.2.2.1.2.1, h.2.2.2.1.2.2.1, h.2.2.2.1.2.2.2, h.2.2.2.2.1.1, h.2.2.2.2.1.2.1, h.2.2.2.2.1.2.2, h.2.2.2.2.2.1.1, h.2.2.2.2.2.1.2.1, h.2.2.2.2.2.1.2.2.1, h.2.2.2.2.2.1.2.2.2.1, h.2.2.2.2.2.1.2.2.2.2.1, h.2.2.2.2.2.1.2.2.2.2.2.1, h.2.2.2.2.2.1.2.2.2.2.2.2, h.2.2.2.2.2.2.1.1, h.2.2.2.2.2.2.1.2.1, h.2.2.2.2.2.2.1.2.2.1, h.2.2.2.2.2.2.1.2.2.2, h.2.2.2.2.2.2.2.1, h.2.2.2.2.2.2.2.2.1, h.2.2.2.2.2.2.2.2.2, le8 h.1, ex, c1, q10, g35_22] at ih' ⊢ <;> exact ih'
  exact (g35_0).trans (L 6 0 rfl)
theorem Rl_ex {f U : Nat → Int32} (hR : RlC d f U) {u m m' : Nat} (hu : u < 6) (hm : f 3 = nQ m) (hm64 : m < 64) (hm' : m' < 64) (e : Bool) (hb : ∀ v, v < 6 → (m' / 2 ^ v % 2 = 1 ↔ if v = u then e = true else m / 2 ^ v % 2 = 1)) : RlC (rX d 2 (up (d 2) u (if e = true then nQ 1 else nQ 0))) (up f 3 (nQ m')) U := by
  obtain ⟨⟨a1, a2, a3⟩, a4, a5, a6⟩ := hR
  refine ⟨⟨?_, fun r hr => ?_, fun v hv => ?_⟩, fun j hj => ?_, fun a ha => ?_, Lg_congr a6 (fun u h1 h2 => rX_n (by omega)) (fun i h1 h2 => up_n (by omega))⟩
  · rw [rX_n (by omega), up_n (by omega), a1]
  · rw [rX_n (by omega), up_n (by omega), a2 r hr]
  · have e1 : frF (up f 3 (nQ m')) v ↔ if v = u then e = true else m / 2 ^ v % 2 = 1 := by
      unfold frF
      rw [up_s]
      exact (fr_m m' hm' v hv).trans (hb v hv)
    rw [rX_s]
    by_cases c : v = u
    · rw [if_pos c] at e1
      rw [c, up_s]
      rw [c] at e1
      simp only [e1]
    · rw [if_neg c] at e1
      rw [up_n c, a3 v hv]
      have e2 : frF f v ↔ m / 2 ^ v % 2 = 1 := by
        unfold frF
        rw [hm]
        exact fr_m m hm64 v hv
      simp only [e1, e2]
  · rw [rX_n (by omega), rX_n (by omega), rX_n (by omega), rX_n (by omega), up_n (by omega), up_n (by omega), up_n (by omega)]
    exact a4 j hj
  · rw [rX_n (by omega), up_n (by omega), a5 a ha]
end Sv
section Sw
variable {L : Nat} {xs : Nat → Int32} {τ : Mem}
theorem s52 (h : RW L xs τ) (v : Int32) (e : Bool) : StW L xs 197 141 [.int v, .int (if e = true then nQ 1 else nQ 0)] τ := by
  obtain ⟨n, hR, hF, hI⟩ := RW_n h
  have hM : ShM τ 186 := h.1.1.2.2.2
  have w1 : tkM τ 8 = (1, 4) := h.1.1.1.1
  have w2 : prM τ 8 0 = 9 := h.1.1.1.2.1
  have w0 : tkM τ 193 = (5, 1) := h.1.1.2.2.1.2.2.2.2.2.2.2.2.2
  have hs : ShS τ 9 := h.1.1.2.1.1
  by_cases hx : inP v (nQ 0) (nQ 5)
  · obtain ⟨u, hu, rfl⟩ := in_ex hx (by decide)
    obtain ⟨τ1, c, hK⟩ := Kp_ex h
    obtain ⟨n', kR, kF, kI, kF0, kI0, krow⟩ := Kp_n h hK
    have en : n' = n := by
      have e1 := kF0.2.1
      rw [hF.2.1, nQ_eq (by have := hF.2.2.1; omega) (by have := kF0.2.2.1; omega)] at e1
      exact e1.symm
    subst en
    have v1 : tkM τ1 8 = (1, 4) := hK.2.1.1.1.1
    have v2 : prM τ1 8 0 = 9 := hK.2.1.1.1.2.1
    have v0 : tkM τ1 193 = (5, 1) := hK.2.1.1.2.2.1.2.2.2.2.2.2.2.2.2
    have hs1 : ShS τ1 9 := hK.2.1.1.2.1.1
    have hM1 : ShM τ1 186 := hK.2.1.1.2.2.2
    have k1 := Kp_w (τ' := τ) hK
    obtain ⟨m, hm64, hm3⟩ := hI.1.2.2.1
    have hm3' : kpF (rdM τ 187) c 3 = nQ m := (kp_lo _ c (by decide)).trans hm3
    obtain ⟨g1, g2, g3⟩ := mk_m m hm64 u (by omega) e
    have hR2 := Rl_ex kR (u := u) (by omega) hm3' hm64 g1 e g3
    have r35 := c35 hs1 hR2
    have hm := m141_0 (σ := wrM (sB 17 τ1 9 (rX (rw_ τ1 9) 2 (up (rw_ τ1 9 2) u (if e = true then nQ 1 else nQ 0)))) 193 0 (nQ (cxN (up (kpF (rdM τ 187) c) 3 (nQ (mkN m u e))) 6))) (d := rw_ τ 186) hM1 hK.2.2.1.1 hK.2.2.1.2 hm3 hm64 (u := u) (by omega) e
    refine StW_K hK (w197_r w1 (show tkM (sB 17 τ1 9 (rX (rw_ τ1 9) 2 (up (rw_ τ1 9 2) u (if e = true then nQ 1 else nQ 0)))) 193 = (5, 1) from v0) ?_) hm rfl rfl rfl rfl rfl (by intro i hi; rw [rX_s, up_n (by omega)]; rfl) (by
      rw [rX_s]
      obtain ⟨⟨b1, b2, b3, b4⟩, hB⟩ := kI
      refine ⟨n', Rl_U hR2 (fun k _ => us_c2 hF.2.2.1 _ _ (fun i h1 h2 => up_n (by omega))), Fl_cg kF (fun u h1 h2 => rX_n (by omega)) (fun i h1 h2 => up_n (by omega)), ⟨fun i hi => ?_, fun i j hi hj e => ?_, ⟨_, g1, up_s _ _ _⟩, fun k hk => ?_⟩, IB_cg hF.2.2.1 hB (fun i h1 h2 => up_n (by omega))⟩
      · rw [up_n (by omega), up_n (by omega), up_n (by omega)]
        exact b1 i hi
      · rw [up_n (by omega), up_n (by omega)] at e
        exact b2 i j hi hj e
      · rw [up_n (by omega), up_n (by omega)]
        exact b4 k hk)
    have ez : (if e = true then nQ 1 else nQ 0) &&& nQ 1 = if e = true then nQ 1 else nQ 0 := by cases e <;> decide
    refine (g52_0).trans ?_
    simp (disch := omega) only [cn_l, cn_r, Option.toList, List.cons_append, List.nil_append, if_true, if_false, tk_sB, pr_sB, aOk, nQ_nat, nQ_neg, nQ_add, nQ_mul, leF, rd_sB, rd_sB0, wr_sB, wr_sB0, true_and, and_true, or_false, false_or, not_false_eq_true, c87, eq_true hx, w1, w2, k1, v1, v2, hs1.2.1.1, hs1.2.1.2.1, hs1.2.1.2.2, hs1.2.2.1.1, hs1.2.2.1.2.1, hs1.2.2.1.2.2.1, hs1.2.2.1.2.2.2.1, hs1.2.2.1.2.2.2.2.1, hs1.2.2.1.2.2.2.2.2.1, hs1.2.2.1.2.2.2.2.2.2.1, hs1.2.2.1.2.2.2.2.2.2.2.1, hs1.2.2.1.2.2.2.2.2.2.2.2, hs1.2.2.2.1.1, hs1.2.2.2.1.2.1, hs1.2.2.2.1.2.2.1, hs1.2.2.2.1.2.2.2, hs1.2.2.2.2.1.1, hs1.2.2.2.2.1.2.1, hs1.2.2.2.2.1.2.2, hs1.2.2.2.2.2.1.1, hs1.2.2.2.2.2.1.2.1, hs1.2.2.2.2.2.1.2.2.1, hs1.2.2.2.2.2.1.2.2.2.1, hs1.2.2.2.2.2.1.2.2.2.2.1, hs1.2.2.2.2.2.1.2.2.2.2.2.1, hs1.2.2.2.2.2.1.2.2.2.2.2.2, hs1.2.2.2.2.2.2.1.1, hs1.2.2.2.2.2.2.1.2.1, hs1.2.2.2.2.2.2.1.2.2.1, hs1.2.2.2.2.2.2.1.2.2.2, hs1.2.2.2.2.2.2.2.1, hs1.2.2.2.2.2.2.2.2.1, hs1.2.2.2.2.2.2.2.2.2, le8 hs1.1, ez, r35, g52_4, g52_8, g52_18, g52_25]
  · refine StW_E h (k := 1) (by decide) (by decide) (w197_E1 w1 ?_) (m141_1 hM hx)
    refine (g52_0).trans ?_
    simp (disch := omega) only [cn_l, cn_r, Option.toList, List.cons_append, List.nil_append, if_true, if_false, tk_sB, pr_sB, c87, eq_false hx, g52_4, g52_8, g52_18, g52_25]
end Sw
