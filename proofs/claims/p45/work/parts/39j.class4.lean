/-! The class's operations on files. -/
def dlt (a : Nat) (x y : Int32) (k : Nat) : Int32 := if k / 2 = a then (if k - k / 2 * 2 = 0 then x else y) else nQ 0
def chU (U : Nat → Int32) (a : Nat) (x y : Int32) : Nat → Int32 := up (up U (2 * a) (U (2 * a) + x)) (2 * a + 1) (U (2 * a + 1) + y)
theorem z_r (x : Int32) : x + nQ 0 = x := Int32.add_zero x
theorem chU_k (U : Nat → Int32) (a : Nat) (x y : Int32) (k : Nat) : chU U a x y k = U k + dlt a x y k := by
  unfold chU dlt
  by_cases h1 : k = 2 * a + 1
  · subst h1
    rw [up_s, if_pos (by omega), if_neg (by omega)]
  · rw [up_n h1]
    by_cases h2 : k = 2 * a
    · subst h2
      rw [up_s, if_pos (by omega), if_pos (by omega)]
    · rw [up_n h2, if_neg (by omega), z_r]
theorem dl_rs (a k : Nat) (s z : Int32) : dlt a s (nQ 1) k + dlt a (z - s) (nQ 0) k = dlt a z (nQ 1) k := by
  unfold dlt
  split
  · split
    · rw [Int32.add_comm, Int32.sub_add_cancel]
    · rfl
  · rfl
theorem dl_ng (a k : Nat) (s y : Int32) : dlt a s y k + dlt a (-s) (-y) k = nQ 0 := by
  unfold dlt
  split
  · split
    · exact Int32.add_right_neg s
    · exact Int32.add_right_neg y
  · rfl
theorem gA_dl {u g k : Nat} (hu : u < 6) (hg : g < 3) (hk : k < 18) (p z : Int32) : gAR (nQ (k / 2)) (k - k / 2 * 2) (p, nQ u, nQ g, z) = dlt u z (nQ 1) k + dlt (6 + g) z (nQ 1) k := by
  unfold gAR dlt
  dsimp only
  simp (disch := omega) only [nQ_add, nQ_eq]
  by_cases h1 : k / 2 = u
  · rw [if_pos (Or.inl h1.symm), if_pos h1, if_neg (show ¬ k / 2 = 6 + g by omega), z_r]
  · by_cases h2 : k / 2 = 6 + g
    · rw [if_pos (Or.inr h2.symm), if_neg h1, if_pos h2, Int32.add_comm, z_r]
    · rw [if_neg (fun z => z.elim (fun z => h1 z.symm) (fun z => h2 z.symm)), if_neg h1, if_neg h2]
      rfl
theorem Rl_ch {d : Nat → Nat → Int32} {f U : Nat → Int32} (hR : RlC d f U) {a : Nat} (x y : Int32) (ha : a < 9) : RlC (chD d a x y) f (chU U a x y) := by
  unfold chD
  obtain ⟨⟨a1, a2, a3⟩, a4, a5, a6⟩ := hR
  refine ⟨⟨a1, a2, a3⟩, fun k hk => ?_, a5, Lg_congr a6 (fun u h1 h2 => rX_n (by omega)) (fun i h1 h2 => rfl)⟩
  obtain ⟨b1, b2, b3, b4⟩ := a4 k hk
  refine ⟨?_, b2, b3, b4⟩
  rw [rX_s]
  unfold chU
  rw [(a4 (2 * a) (by omega)).1, (a4 (2 * a + 1) (by omega)).1]
  by_cases h1 : k = 2 * a + 1
  · rw [h1, up_s, up_s]
  · rw [up_n h1, up_n h1]
    by_cases h2 : k = 2 * a
    · rw [h2, up_s, up_s]
    · rw [up_n h2, up_n h2, b1]
theorem Rl_U {d : Nat → Nat → Int32} {f U V : Nat → Int32} (hR : RlC d f U) (h : ∀ k, k < 18 → V k = U k) : RlC d f V := by
  obtain ⟨a1, a4, a5, a6⟩ := hR
  refine ⟨a1, fun k hk => ?_, a5, a6⟩
  rw [h k hk]
  exact a4 k hk
/-- other rows of the files, other files -/
theorem Rl_f2 {d d' : Nat → Nat → Int32} {f f' U : Nat → Int32} (hR : RlC d f U) (hd : ∀ u, ¬ (8 ≤ u ∧ u < 13) → d' u = d u) (hf : ∀ i, i < 4 ∨ (245 ≤ i ∧ i < 357) → f' i = f i) : RlC d' f' U := by
  obtain ⟨⟨a1, a2, a3⟩, a4, a5, a6⟩ := hR
  refine ⟨⟨?_, fun r hr => ?_, fun u hu => ?_⟩, fun j hj => ?_, fun j hj => ?_, Lg_congr a6 (fun u h1 h2 => hd u (by omega)) (fun i h1 h2 => hf i (by omega))⟩
  · rw [hd 0 (by omega), hf 0 (by omega), a1]
  · rw [hd 1 (by omega), hf _ (by omega), a2 r hr]
  · rw [hd 2 (by omega), a3 u hu]
    unfold frF
    rw [hf 3 (by omega)]
  · rw [hd 3 (by omega), hd 4 (by omega), hd 5 (by omega), hd 6 (by omega), hf _ (by omega), hf _ (by omega), hf _ (by omega)]
    exact a4 j hj
  · rw [hd 7 (by omega), hf _ (by omega), a5 j hj]
theorem Rl_fl {d d' : Nat → Nat → Int32} {f f' U : Nat → Int32} (hR : RlC d f U) (hd : ∀ u, ¬ (8 ≤ u ∧ u < 13) → d' u = d u) (hf : ∀ i, i < 4 ∨ 245 ≤ i → f' i = f i) : RlC d' f' U := Rl_f2 hR hd (fun i hi => hf i (by omega))
theorem Fl_cg {d d' : Nat → Nat → Int32} {f f' : Nat → Int32} {n : Nat} (h : FlR d f n) (hd : ∀ u, 8 ≤ u → u < 13 → d' u = d u) (hf : ∀ i, 4 ≤ i → i < 245 → f' i = f i) : FlR d' f' n := by
  obtain ⟨a1, a2, a3, a4⟩ := h
  refine ⟨by rw [hd 8 (by omega) (by omega), a1], by rw [hf 4 (by omega) (by omega), a2], a3, ?_⟩
  rw [show qC d' = qC d by unfold qC; rw [hd 9 (by omega) (by omega), hd 10 (by omega) (by omega), hd 11 (by omega) (by omega), hd 12 (by omega) (by omega)]]
  rw [show Lq (qM f') n = Lq (qM f) n from Lq_congr (fun i hi => by unfold qM; rw [hf _ (by omega) (by omega), hf (5 + 4 * i + 1) (by omega) (by omega), hf (5 + 4 * i + 2) (by omega) (by omega), hf (5 + 4 * i + 3) (by omega) (by omega)])]
  exact a4
theorem rf_lo (f : Nat → Int32) (n : Nat) (ri : Nat → Int32) {u g : Nat} (hu : u < 6) (hg : g < 3) {i : Nat} (h : i < 299 ∨ 357 ≤ i) : rfF f n ri u g i = f i := by
  unfold rfF
  have ha := ac_lt (e := (raN f n ri u g - 1) / 2) hu hg
  split
  · rfl
  · rcases h with h | h
    · rw [lg_lo _ _ _ _ (by omega), up_n (by omega)]
    · rw [lg_hi _ _ _ _ h, up_n (by omega)]
def crN (f : Nat → Int32) (n : Nat) (ri : Nat → Int32) (u g : Nat) : Nat := if raN f n ri u g = 0 then n + 1 else n
section Cw
variable {σ : Mem} {b : Nat} {d : Nat → Nat → Int32} {f U : Nat → Int32}
/-- reviews behind a change of the files -/
theorem c27f (h : ShS σ b) (hR : RlC d f U) {n : Nat} (hF : FlR d f n) (hU : UsQ f n U) : ∃ d', DoM 27 [.ref b] (sB 17 σ b d) = some (.inl none, sB 17 σ b d') ∧ RlC d' (rvA f n 18) (fun k => usF (rvA f n 18) (nQ (k / 2)) (k - k / 2 * 2) n) ∧ FlR d' (rvA f n 18) n := by
  obtain ⟨d', x1, x2, x3⟩ := c27 h hR
  rw [rA_U f U hF.2.2.1 hU 18 (Nat.le_refl _)] at x2
  refine ⟨d', x1, Rl_U x2 (fun k hk => ?_), Fl_cg hF x3 (fun i h1 h2 => q_rA f n (by omega) 18 (by decide))⟩
  rw [us_rA f hF.2.2.1 _ _ 18 (by decide), hU k hk]
/-- a refusal -/
theorem c26f (h : ShS σ b) (hR : RlC d f U) {n : Nat} (hF : FlR d f n) (hU : UsQ f n U) {u g : Nat} (hu : u < 6) (hg : g < 3) {ri : Nat → Int32} (hr : ¬ raN f n ri u g = 0) : ∃ d', DoM 26 [.ref b, .int (nQ (raN f n ri u g)), .int (nQ u), .int (nQ g)] (sB 17 σ b d) = some (.inl none, sB 17 σ b d') ∧ RlC d' (rfF f n ri u g) (fun k => usF (rfF f n ri u g) (nQ (k / 2)) (k - k / 2 * 2) n) ∧ FlR d' (rfF f n ri u g) n := by
  obtain ⟨d', x1, x2, x3⟩ := c26 h hR hu hg hr
  refine ⟨d', x1, Rl_U x2 (fun k hk => ?_), Fl_cg hF x3 (fun i h1 h2 => rf_lo _ _ _ hu hg (by omega))⟩
  have h60 := hF.2.2.1
  rw [hU k hk]
  exact us_cg _ _ n (fun i hi => by unfold qM; rw [rf_lo _ _ _ hu hg (by omega), rf_lo _ _ _ hu hg (by omega), rf_lo _ _ _ hu hg (by omega), rf_lo _ _ _ hu hg (by omega)])
theorem by_q {z : Nat} (h : z ≤ 5000) : byR (nQ z) (nQ z) := by
  by_cases e : z = 0
  · exact Or.inl ⟨by rw [nQ_lt (by decide) (by omega)]; omega, by rw [e]⟩
  · exact Or.inr ⟨by rw [nQ_lt (by decide) (by omega)]; omega, rfl⟩
theorem c17 (h : ShS σ b) (hR : RlC d f U) {n : Nat} (hF : FlR d f n) (hU : UsQ f n U) (h60 : n < 60) {u g z : Nat} (hu : u < 6) (hg : g < 3) (hz : z ≤ 5000) (p : Int32) (r0 : Nat → Int32) : ∃ d', DoM 17 [.ref b, .int (nQ u), .int (nQ g), .int p, .int (nQ z)] (sB 17 σ b d) = some (.inl (some (.int (nQ (raN f n (riF r0 (nQ z) (nQ 1) (nQ z) (nQ 1)) u g)))), sB 17 σ b d') ∧
    RlC d' (crF f n (riF r0 (nQ z) (nQ 1) (nQ z) (nQ 1)) u g p (nQ z)) (fun k => usF (crF f n (riF r0 (nQ z) (nQ 1) (nQ z) (nQ 1)) u g p (nQ z)) (nQ (k / 2)) (k - k / 2 * 2) (crN f n (riF r0 (nQ z) (nQ 1) (nQ z) (nQ 1)) u g)) ∧ FlR d' (crF f n (riF r0 (nQ z) (nQ 1) (nQ z) (nQ 1)) u g p (nQ z)) (crN f n (riF r0 (nQ z) (nQ 1) (nQ z) (nQ 1)) u g) := by
  have k0 := h.2.1.1
  have k8 := h.2.1.2.1
  have p8 := h.2.2.1.2.2.2.2.2.2.2.1
  have r23 := c23 h hR hU hu hg (x0 := nQ z) (x1 := nQ 1) (x2 := nQ z) (x3 := nQ 1) (ri := riF r0 (nQ z) (nQ 1) (nQ z) (nQ 1)) (by_q hz) (by_q (by decide)) (by_q hz) (by_q (by decide))
  have l := ra_le f n (riF r0 (nQ z) (nQ 1) (nQ z) (nQ 1)) u g
  unfold crF crN
  by_cases hq : raN f n (riF r0 (nQ z) (nQ 1) (nQ z) (nQ 1)) u g = 0
  · simp only [if_pos hq]
    obtain ⟨f1, f2, f3, f4⟩ := hF
    have hd0 : ∀ u', ¬ (8 ≤ u' ∧ u' < 13) → (rX (rX (rX (rX (rX d 9 (up (d 9) n p)) 10 (up (d 10) n (nQ u))) 11 (up (d 11) n (nQ g))) 12 (up (d 12) n (nQ z))) 8 (up (d 8) 0 (nQ (n + 1)))) u' = d u' := fun u' hu' => by rw [rX_n (by omega), rX_n (by omega), rX_n (by omega), rX_n (by omega), rX_n (by omega)]
    have hf0 : ∀ i, i < 4 ∨ 245 ≤ i → (up (up (up (up (up f (5 + 4 * n) p) (5 + 4 * n + 1) (nQ u)) (5 + 4 * n + 2) (nQ g)) (5 + 4 * n + 3) (nQ z)) 4 (nQ (n + 1))) i = f i := fun i hi => by rw [up_n (by omega), up_n (by omega), up_n (by omega), up_n (by omega), up_n (by omega)]
    have hR1 := Rl_fl hR hd0 hf0
    have hR3 := Rl_ch (Rl_ch hR1 (nQ z) (nQ 1) (a := u) (by omega)) (nQ z) (nQ 1) (a := 6 + g) (by omega)
    have hLq : Lq (qM (up (up (up (up (up f (5 + 4 * n) p) (5 + 4 * n + 1) (nQ u)) (5 + 4 * n + 2) (nQ g)) (5 + 4 * n + 3) (nQ z)) 4 (nQ (n + 1)))) (n + 1) = Lq (qM f) n ++ [(p, nQ u, nQ g, nQ z)] := by
      rw [Lq_s]
      congr 1
      · refine Lq_congr (fun i hi => ?_)
        unfold qM
        simp (disch := omega) only [up_n]
      · unfold qM
        simp (disch := omega) only [up_n, up_s]
    have hLc : Lq (qC (rX (rX (rX (rX (rX d 9 (up (d 9) n p)) 10 (up (d 10) n (nQ u))) 11 (up (d 11) n (nQ g))) 12 (up (d 12) n (nQ z))) 8 (up (d 8) 0 (nQ (n + 1))))) (n + 1) = Lq (qC d) n ++ [(p, nQ u, nQ g, nQ z)] := by
      rw [Lq_s]
      congr 1
      · refine Lq_congr (fun i hi => ?_)
        unfold qC
        simp (disch := omega) only [rX_s, rX_n, up_n]
      · unfold qC
        simp (disch := omega) only [rX_s, rX_n, up_s]
    have hF1 : FlR (rX (rX (rX (rX (rX d 9 (up (d 9) n p)) 10 (up (d 10) n (nQ u))) 11 (up (d 11) n (nQ g))) 12 (up (d 12) n (nQ z))) 8 (up (d 8) 0 (nQ (n + 1)))) (up (up (up (up (up f (5 + 4 * n) p) (5 + 4 * n + 1) (nQ u)) (5 + 4 * n + 2) (nQ g)) (5 + 4 * n + 3) (nQ z)) 4 (nQ (n + 1))) (n + 1) := by
      refine ⟨by rw [rX_s, up_s], up_s _ _ _, h60, ?_⟩
      rw [hLq, hLc]
      exact f4.append_right _
    have hU1 : UsQ (up (up (up (up (up f (5 + 4 * n) p) (5 + 4 * n + 1) (nQ u)) (5 + 4 * n + 2) (nQ g)) (5 + 4 * n + 3) (nQ z)) 4 (nQ (n + 1))) (n + 1) (chU (chU U u (nQ z) (nQ 1)) (6 + g) (nQ z) (nQ 1)) := by
      intro k hk
      rw [us_sm, hLq, sm_app, ← us_sm, chU_k, chU_k, hU k hk, gA_dl hu hg hk, Int32.add_assoc]
    obtain ⟨d', x1, x2, x3⟩ := c27f h hR3 (Fl_cg hF1 (fun u' h1 h2 => by rw [ch_n (by omega), ch_n (by omega)]) (fun i _ _ => rfl)) hU1
    refine ⟨d', ?_, x2, x3⟩
    refine (g17_0).trans ?_
    simp (disch := omega) only [aOk, eq_self, tk_sB, pr_sB, tk_wr, pr_wr, nQ_nat, nQ_neg, nQ_add, nQ_mul, nQ_lt, leF, ltT, ltF, rd_sB, rd_sB0, wr_sB, wr_sB0, cn_l, cn_r, Option.toList, List.cons_append, List.nil_append, if_true, if_false, true_and, and_true, or_false, false_or, true_or, or_true, not_false_eq_true, not_true_eq_false, and_false, false_and, zb_0, zb_1, q10, k0, k8, p8, r23, hq, c99, c7 h f1 h60, c22 h, nQ_add, x1, g17_12, g17_27, g17_42, g17_50, g17_55, g17_61, g17_65]
  · simp only [if_neg hq]
    obtain ⟨d', x1, x2, x3⟩ := c26f h hR hF hU hu hg hq
    refine ⟨d', ?_, x2, x3⟩
    have hq' : (nQ (raN f n (riF r0 (nQ z) (nQ 1) (nQ z) (nQ 1)) u g) = nQ 0) = False := by rw [nQ_eq (by omega) (by decide)]; exact eq_false hq
    refine (g17_0).trans ?_
    simp (disch := omega) only [aOk, eq_self, tk_sB, pr_sB, tk_wr, pr_wr, nQ_nat, nQ_neg, nQ_add, nQ_mul, nQ_lt, leF, ltT, ltF, rd_sB, rd_sB0, wr_sB, wr_sB0, cn_l, cn_r, Option.toList, List.cons_append, List.nil_append, if_true, if_false, true_and, and_true, or_false, false_or, true_or, or_true, not_false_eq_true, not_true_eq_false, and_false, false_and, zb_0, zb_1, q10, k0, r23, hq', x1, g17_12, g17_27, g17_42, g17_50, g17_55, g17_61, g17_65]
/-- a change of blocks; the files come behind it -/
theorem c19 (h : ShS σ b) (hR : RlC d f U) {n : Nat} (h60 : n ≤ 60) (hU : UsQ f n U) {u g : Nat} (hu : u < 6) (hg : g < 3) {x y : Int32} (hb : byR x y) (r0 : Nat → Int32) {f' : Nat → Int32} (hf : ∀ i, i < 4 ∨ 245 ≤ i → f' i = f i) (hU' : UsQ f' n (chU (chU U u x (nQ 0)) (6 + g) x (nQ 0))) : ∃ d', DoM 19 [.ref b, .int (nQ u), .int (nQ g), .int x] (sB 17 σ b d) = some (.inl (some (.int (nQ (raN f n (riF r0 y (nQ 0) y (nQ 0)) u g)))), sB 17 σ b d') ∧
    (raN f n (riF r0 y (nQ 0) y (nQ 0)) u g = 0 → RlC d' (rvA f' n 18) (chU (chU U u x (nQ 0)) (6 + g) x (nQ 0))) ∧ (¬ raN f n (riF r0 y (nQ 0) y (nQ 0)) u g = 0 → RlC d' (rfF f n (riF r0 y (nQ 0) y (nQ 0)) u g) U) ∧ ∀ u, 8 ≤ u → u < 13 → d' u = d u := by
  have k0 := h.2.1.1
  have l0 : byR (nQ 0) (nQ 0) := by_q (by decide)
  have r23 := c23 h hR hU hu hg (x0 := x) (x1 := nQ 0) (x2 := x) (x3 := nQ 0) (ri := riF r0 y (nQ 0) y (nQ 0)) hb l0 hb l0
  have l := ra_le f n (riF r0 y (nQ 0) y (nQ 0)) u g
  by_cases hq : raN f n (riF r0 y (nQ 0) y (nQ 0)) u g = 0
  · have hR3 := Rl_ch (Rl_ch (Rl_fl hR (fun _ _ => rfl) hf) x (nQ 0) (a := u) (by omega)) x (nQ 0) (a := 6 + g) (by omega)
    obtain ⟨d', x1, x2, x3⟩ := c27 h hR3
    rw [rA_U f' _ h60 hU' 18 (Nat.le_refl _)] at x2
    refine ⟨d', ?_, fun _ => x2, fun z => absurd hq z, fun u' h1 h2 => (x3 u' h1 h2).trans (by rw [ch_n (by omega), ch_n (by omega)])⟩
    refine (g19_0).trans ?_
    simp (disch := omega) only [aOk, eq_self, tk_sB, pr_sB, tk_wr, pr_wr, nQ_nat, nQ_neg, nQ_add, nQ_mul, nQ_lt, leF, ltT, ltF, rd_sB, rd_sB0, wr_sB, wr_sB0, cn_l, cn_r, Option.toList, List.cons_append, List.nil_append, if_true, if_false, true_and, and_true, or_false, false_or, true_or, or_true, not_false_eq_true, not_true_eq_false, and_false, false_and, zb_0, zb_1, q10, k0, r23, hq, c99, c22 h, nQ_add, x1, g19_10, g19_25, g19_35, g19_40, g19_45, g19_49]
  · obtain ⟨d', x1, x2, x3⟩ := c26 h hR hu hg hq
    refine ⟨d', ?_, fun z => absurd z hq, fun _ => x2, x3⟩
    have hq' : (nQ (raN f n (riF r0 y (nQ 0) y (nQ 0)) u g) = nQ 0) = False := by rw [nQ_eq (by omega) (by decide)]; exact eq_false hq
    refine (g19_0).trans ?_
    simp (disch := omega) only [aOk, eq_self, tk_sB, pr_sB, tk_wr, pr_wr, nQ_nat, nQ_neg, nQ_add, nQ_mul, nQ_lt, leF, ltT, ltF, rd_sB, rd_sB0, wr_sB, wr_sB0, cn_l, cn_r, Option.toList, List.cons_append, List.nil_append, if_true, if_false, true_and, and_true, or_false, false_or, true_or, or_true, not_false_eq_true, not_true_eq_false, and_false, false_and, zb_0, zb_1, q10, k0, r23, hq', x1, g19_10, g19_25, g19_35, g19_40, g19_45, g19_49]
/-- the same file in both tables -/
theorem fl_at {n i j : Nat} (hF : FlR d f n) (hD : disF f n) (hi : i < n) (hj : j < n) (hk : d 9 i = f (5 + 4 * j)) : qC d i = qM f j := by
  obtain ⟨j', h1, h2⟩ := Lq_mem.mp (hF.2.2.2.mem_iff.mp (Lq_mem.mpr ⟨i, hi, rfl⟩))
  have h3 : f (5 + 4 * j') = d 9 i := congrArg (·.1) h2
  rw [← hD j' j h1 hj (h3.trans hk)]
  exact h2.symm
theorem by_d {s z : Nat} (hs : s ≤ 5000) (hz : z ≤ 5000) : byR (nQ z - nQ s) (if nQ s < nQ z then nQ z - nQ s else nQ 0) := by
  by_cases e : s < z
  · rw [if_pos (by rw [nQ_lt (by omega) (by omega)]; exact e), nQ_sub (by omega)]
    exact Or.inr ⟨by rw [nQ_lt (by omega) (by omega)]; omega, rfl⟩
  · rw [if_neg (by rw [nQ_lt (by omega) (by omega)]; exact e)]
    refine Or.inl ⟨?_, rfl⟩
    rw [Int32.lt_iff_toInt_lt, Int32.toInt_sub]
    simp (disch := omega) only [nQ_int]
    rw [Int.bmod_eq_of_le (by omega) (by omega)]
    omega
/-- a file changed in both tables -/
theorem sm_ch {n i : Nat} {f' : Nat → Int32} (hi : i < n) (hf : ∀ j, j < n → ¬ j = i → qM f' j = qM f j) (a : Int32) (r : Nat) : gAR a r (qM f i) + usF f' a r n = gAR a r (qM f' i) + usF f a r n := by
  rw [us_sm, us_sm, Lq_set hf]
  exact sm_perm (gAR a r) (set_perm (Lq (qM f) n) i (qM f i) (qM f' i) (by rw [List.getElem?_eq_getElem (by rw [Lq_len]; exact hi), Lq_get]))
theorem pm_ch {n i j : Nat} {f' : Nat → Int32} {d' : Nat → Nat → Int32} (hp : (Lq (qC d) n).Perm (Lq (qM f) n)) (hi : i < n) (hj : j < n) (h1 : qC d i = qM f j) (h2 : qC d' i = qM f' j) (hd : ∀ k, k < n → ¬ k = i → qC d' k = qC d k) (hf : ∀ k, k < n → ¬ k = j → qM f' k = qM f k) : (Lq (qC d') n).Perm (Lq (qM f') n) := by
  rw [Lq_set hd, Lq_set hf]
  have e1 := set_perm (Lq (qC d) n) i (qC d i) (qC d' i) (by rw [List.getElem?_eq_getElem (by rw [Lq_len]; exact hi), Lq_get])
  have e2 := set_perm (Lq (qM f) n) j (qM f j) (qM f' j) (by rw [List.getElem?_eq_getElem (by rw [Lq_len]; exact hj), Lq_get])
  have e3 := (e1.trans (hp.cons _))
  rw [h2] at e3
  have e4 := e3.trans e2.symm
  rw [h1] at e4
  rw [h2]
  exact (List.perm_cons _).mp e4
theorem c18 (h : ShS σ b) (hR : RlC d f U) {n : Nat} (hF : FlR d f n) (hU : UsQ f n U) (hD : disF f n) {i j u g s z : Nat} (hi : i < n) (hj : j < n) (hk : d 9 i = f (5 + 4 * j)) (hu : u < 6) (hg : g < 3) (hs : s ≤ 5000) (hz : z ≤ 5000) (eu : f (5 + 4 * j + 1) = nQ u) (eg : f (5 + 4 * j + 2) = nQ g) (es : f (5 + 4 * j + 3) = nQ s) (r0 : Nat → Int32) : ∃ d', DoM 18 [.ref b, .int (nQ i), .int (nQ z)] (sB 17 σ b d) = some (.inl (some (.int (nQ (raN f n (riF r0 (moF f j (nQ z)) (nQ 0) (moF f j (nQ z)) (nQ 0)) u g)))), sB 17 σ b d') ∧
    RlC d' (rsF f n (riF r0 (moF f j (nQ z)) (nQ 0) (moF f j (nQ z)) (nQ 0)) u g j (nQ z)) (fun k => usF (rsF f n (riF r0 (moF f j (nQ z)) (nQ 0) (moF f j (nQ z)) (nQ 0)) u g j (nQ z)) (nQ (k / 2)) (k - k / 2 * 2) n) ∧ FlR d' (rsF f n (riF r0 (moF f j (nQ z)) (nQ 0) (moF f j (nQ z)) (nQ 0)) u g j (nQ z)) n := by
  obtain ⟨h8, ⟨k0, k8, k13⟩, ⟨p1, p2, p3, p4, p5, p6, p7, p8, p9⟩, ⟨q1, q2, q3, q4⟩, ⟨e2, e3, e4⟩, ⟨t1, t2, t3, t4, t5, t6, t7⟩, ⟨t9, t10, t11, t12⟩, ⟨t14, t15, t16⟩⟩ := id h
  have hq0 := fl_at hF hD hi hj hk
  obtain ⟨f1, f2, f3, f4⟩ := id hF
  have y1 : d 10 i = nQ u := (congrArg (·.2.1) hq0).trans eu
  have y2 : d 11 i = nQ g := (congrArg (·.2.2.1) hq0).trans eg
  have y3 : d 12 i = nQ s := (congrArg (·.2.2.2) hq0).trans es
  have hb : byR (nQ z - nQ s) (moF f j (nQ z)) := by
    unfold moF
    rw [es]
    exact by_d hs hz
  have hf0 : ∀ k, k < 4 ∨ 245 ≤ k → up f (5 + 4 * j + 3) (nQ z) k = f k := fun k hk => up_n (by omega)
  have hfq : ∀ k, k < n → ¬ k = j → qM (up f (5 + 4 * j + 3) (nQ z)) k = qM f k := fun k h1 h2 => by unfold qM; simp (disch := omega) only [up_n]
  have e1 : qM f j = (f (5 + 4 * j), nQ u, nQ g, nQ s) := by unfold qM; rw [eu, eg, es]
  have e2 : qM (up f (5 + 4 * j + 3) (nQ z)) j = (f (5 + 4 * j), nQ u, nQ g, nQ z) := by unfold qM; simp (disch := omega) only [up_n, up_s, eu, eg]
  have hU' : UsQ (up f (5 + 4 * j + 3) (nQ z)) n (chU (chU U u (nQ z - nQ s) (nQ 0)) (6 + g) (nQ z - nQ s) (nQ 0)) := by
    intro k hk
    have hs := sm_ch hj hfq (nQ (k / 2)) (k - k / 2 * 2)
    rw [e1, e2, gA_dl hu hg hk, gA_dl hu hg hk, ← hU k hk] at hs
    rw [chU_k, chU_k]
    refine (Int32.add_right_inj (dlt u (nQ s) (nQ 1) k + dlt (6 + g) (nQ s) (nQ 1) k)).mp ?_
    rw [hs, ← dl_rs u k (nQ s) (nQ z), ← dl_rs (6 + g) k (nQ s) (nQ z)]
    ac_rfl
  obtain ⟨d1, x1, x2, x3, x4⟩ := c19 h hR f3 hU hu hg hb r0 hf0 hU'
  have l := ra_le f n (riF r0 (moF f j (nQ z)) (nQ 0) (moF f j (nQ z)) (nQ 0)) u g
  unfold rsF
  by_cases hq : raN f n (riF r0 (moF f j (nQ z)) (nQ 0) (moF f j (nQ z)) (nQ 0)) u g = 0
  · rw [if_pos hq]
    refine ⟨rX d1 12 (up (d1 12) i (nQ z)), ?_, ?_, ?_⟩
    · refine (g18_0).trans ?_
      simp (disch := omega) only [aOk, eq_self, tk_sB, pr_sB, tk_wr, pr_wr, nQ_nat, nQ_neg, nQ_add, nQ_mul, nQ_lt, leF, ltT, ltF, rd_sB, rd_sB0, wr_sB, wr_sB0, cn_l, cn_r, Option.toList, List.cons_append, List.nil_append, if_true, if_false, true_and, and_true, or_false, false_or, true_or, or_true, not_false_eq_true, not_true_eq_false, and_false, false_and, zb_0, zb_1, q10, k0, k8, k13, p1, p2, p3, p4, p5, p6, p7, p8, p9, q1, q2, q3, q4, e2, e3, e4, t1, t2, t3, t4, t5, t6, t7, t9, t10, t11, t12, t14, t15, t16, le8 h8, y1, y2, y3, x1, hq, g18_35, g18_52]
    · refine Rl_U (Rl_fl (x2 hq) (fun u' h1 => rX_n (by omega)) (fun _ _ => rfl)) (fun k hk => ?_)
      rw [us_rA _ f3 _ _ 18 (Nat.le_refl _), hU' k hk]
    · refine ⟨?_, ?_, f3, ?_⟩
      · rw [rX_n (by omega), x4 8 (by omega) (by omega), f1]
      · rw [q_rA _ _ (by omega) 18 (Nat.le_refl _), up_n (by omega), f2]
      · have e3 : Lq (qM (rvA (up f (5 + 4 * j + 3) (nQ z)) n 18)) n = Lq (qM (up f (5 + 4 * j + 3) (nQ z))) n := Lq_congr (fun i hi => by unfold qM; simp (disch := omega) only [q_rA])
        rw [e3]
        refine pm_ch f4 hi hj hq0 ?_ (fun k h1 h2 => ?_) hfq
        · rw [e2]
          unfold qC
          rw [rX_n (by omega), rX_n (by omega), rX_n (by omega), rX_s, up_s, x4 9 (by omega) (by omega), x4 10 (by omega) (by omega), x4 11 (by omega) (by omega), hk, y1, y2]
        · unfold qC
          rw [rX_n (by omega), rX_n (by omega), rX_n (by omega), rX_s, up_n h2, x4 9 (by omega) (by omega), x4 10 (by omega) (by omega), x4 11 (by omega) (by omega), x4 12 (by omega) (by omega)]
  · rw [if_neg hq]
    have hq' : (nQ (raN f n (riF r0 (moF f j (nQ z)) (nQ 0) (moF f j (nQ z)) (nQ 0)) u g) = nQ 0) = False := by rw [nQ_eq (by omega) (by decide)]; exact eq_false hq
    refine ⟨d1, ?_, ?_, ?_⟩
    · refine (g18_0).trans ?_
      simp (disch := omega) only [aOk, eq_self, tk_sB, pr_sB, tk_wr, pr_wr, nQ_nat, nQ_neg, nQ_add, nQ_mul, nQ_lt, leF, ltT, ltF, rd_sB, rd_sB0, wr_sB, wr_sB0, cn_l, cn_r, Option.toList, List.cons_append, List.nil_append, if_true, if_false, true_and, and_true, or_false, false_or, true_or, or_true, not_false_eq_true, not_true_eq_false, and_false, false_and, zb_0, zb_1, q10, k0, k8, k13, p1, p2, p3, p4, p5, p6, p7, p8, p9, q1, q2, q3, q4, e2, e3, e4, t1, t2, t3, t4, t5, t6, t7, t9, t10, t11, t12, t14, t15, t16, le8 h8, y1, y2, y3, x1, hq', g18_35, g18_52]
    · refine Rl_U (x3 hq) (fun k hk => ?_)
      rw [hU k hk]
      exact us_cg _ _ n (fun i hi => by unfold qM; simp (disch := omega) only [rf_lo])
    · exact Fl_cg hF x4 (fun i h1 h2 => rf_lo _ _ _ hu hg (by omega))
end Cw
