/-! The class's operations. -/
theorem ed_lo (f : Nat → Int32) {i : Nat} (h : i < 308) : ∀ k, edR f k i = f i
  | 0 => rfl
  | k + 1 => by
    rw [edR_s]
    split
    · rw [lg_lo _ _ _ _ h]; exact ed_lo f h k
    · exact ed_lo f h k
theorem dy_lo (f : Nat → Int32) {i : Nat} (h : i < 308) (h0 : 0 < i) : ∀ m, dyR f m i = f i
  | 0 => rfl
  | m + 1 => by rw [dyR_s, ed_lo _ h, up_n (by omega)]; exact dy_lo f h h0 m
theorem Rl_lim {d : Nat → Nat → Int32} {f U : Nat → Int32} (hR : RlC d f U) {k : Nat} (hk : k < 18) (s z : Int32) : RlC (rX (rX d 4 (up (d 4) k s)) 5 (up (d 5) k z)) (up (up f (245 + k) s) (263 + k) z) U := by
  obtain ⟨⟨a1, a2, a3⟩, a4, a5, a6⟩ := hR
  refine ⟨⟨?_, fun r hr => ?_, fun u hu => ?_⟩, fun j hj => ?_, fun a ha => ?_, Lg_congr a6 (fun u h1 h2 => by rw [rX_n (by omega), rX_n (by omega)]) (fun i h1 h2 => by rw [up_n (by omega), up_n (by omega)])⟩
  · rw [rX_n (by omega), rX_n (by omega), up_n (by omega), up_n (by omega), a1]
  · rw [rX_n (by omega), rX_n (by omega), up_n (by omega), up_n (by omega), a2 r hr]
  · rw [rX_n (by omega), rX_n (by omega), a3 u hu]
    unfold frF
    rw [up_n (by omega), up_n (by omega)]
  · obtain ⟨b1, b2, b3, b4⟩ := a4 j hj
    rw [rX_n (by omega), rX_n (by omega), rX_n (by omega), rX_s, rX_s, rX_n (by omega), rX_n (by omega)]
    refine ⟨b1, ?_, ?_, ?_⟩
    · by_cases e : j = k
      · rw [e, up_s, up_n (by omega), up_s]
      · rw [up_n e, up_n (by omega), up_n (by omega), b2]
    · by_cases e : j = k
      · rw [e, up_s, up_s]
      · rw [up_n e, up_n (by omega), up_n (by omega), b3]
    · rw [up_n (by omega), up_n (by omega), b4]
  · rw [rX_n (by omega), rX_n (by omega), up_n (by omega), up_n (by omega), a5 a ha]
theorem Rl_gl {d : Nat → Nat → Int32} {f U : Nat → Int32} (hR : RlC d f U) {r : Nat} (hr : r < 2) (v : Int32) : RlC (rX d 1 (up (d 1) r v)) (up f (1 + r) v) U := by
  obtain ⟨⟨a1, a2, a3⟩, a4, a5, a6⟩ := hR
  refine ⟨⟨?_, fun r' hr' => ?_, fun u hu => ?_⟩, fun j hj => ?_, fun a ha => ?_, Lg_congr a6 (fun u h1 h2 => rX_n (by omega)) (fun i h1 h2 => up_n (by omega))⟩
  · rw [rX_n (by omega), up_n (by omega), a1]
  · rw [rX_s]
    by_cases e : r' = r
    · rw [e, up_s, up_s]
    · rw [up_n e, up_n (by omega), a2 r' hr']
  · rw [rX_n (by omega), a3 u hu]
    unfold frF
    rw [up_n (by omega)]
  · rw [rX_n (by omega), rX_n (by omega), rX_n (by omega), rX_n (by omega), up_n (by omega), up_n (by omega), up_n (by omega)]
    exact a4 j hj
  · rw [rX_n (by omega), up_n (by omega), a5 a ha]
theorem IF_sl {f : Nat → Int32} {n : Nat} (h60 : n ≤ 60) (h : InvF f n) {a r s z : Nat} (ha : a < 9) (hr : r < 2) (hs : s ≤ 100000) (hz : z ≤ 100000) : InvF (slF f n a r (nQ s) (nQ z)) n := by
  unfold slF
  obtain ⟨⟨b1, b2, b3, b4⟩, hB⟩ := h
  have hf : ∀ i, i < 245 → up (up f (245 + 2 * a + r) (nQ s)) (263 + 2 * a + r) (nQ z) i = f i := fun i hi => by rw [up_n (by omega), up_n (by omega)]
  have hA : InvA (up (up f (245 + 2 * a + r) (nQ s)) (263 + 2 * a + r) (nQ z)) n := by
    refine ⟨fun i hi => ?_, fun i j hi hj e => ?_, by rw [hf 3 (by decide)]; exact b3, fun k hk => ?_⟩
    · rw [hf _ (by omega), hf _ (by omega), hf _ (by omega)]
      exact b1 i hi
    · rw [hf _ (by omega), hf _ (by omega)] at e
      exact b2 i j hi hj e
    · obtain ⟨s', z', c1, c2, c3, c4⟩ := b4 k hk
      by_cases e : k = 2 * a + r
      · refine ⟨s, z, hs, hz, ?_, ?_⟩
        · rw [up_n (by omega), show 245 + k = 245 + 2 * a + r by omega, up_s]
        · rw [show 263 + k = 263 + 2 * a + r by omega, up_s]
      · refine ⟨s', z', c1, c2, ?_, ?_⟩
        · rw [up_n (by omega), up_n (by omega), c3]
        · rw [up_n (by omega), up_n (by omega), c4]
  have ek : (2 * a + r) / 2 = a := by omega
  have er : 2 * a + r - (2 * a + r) / 2 * 2 = r := by omega
  have hq := fun i hi => q_rv (up (up f (245 + 2 * a + r) (nQ s)) (263 + 2 * a + r) (nQ z)) n a r (by omega) (i := i) (Or.inl hi)
  refine ⟨IA_cg h60 hA (fun i _ hi => hq i hi), fun j hj => ?_⟩
  have := IB_rv (f := up (up f (245 + 2 * a + r) (nQ s)) (263 + 2 * a + r) (nQ z)) (k := 2 * a + r) h60 (by omega) j hj (fun e hst => by
    rw [up_n (by omega), up_n (by omega)] at hst
    rw [up_n (by omega), up_n (by omega), us_c2 h60 _ _ (fun i _ hi => hf i hi)]
    exact hB j hj hst)
  rw [er, ek] at this
  exact this
theorem fr_m : ∀ m, m < 64 → ∀ u, u < 6 → ((nQ m >>> (nQ u &&& nQ 31)) &&& nQ 1 = nQ 1 ↔ m / 2 ^ u % 2 = 1) := by decide +kernel
def mkN (m u : Nat) (e : Bool) : Nat := (if m / 2 ^ u % 2 = 1 then m - 2 ^ u else m) + if e = true then 2 ^ u else 0
theorem mk_m : ∀ m, m < 64 → ∀ u, u < 6 → ∀ e : Bool, mkN m u e < 64 ∧ (m / 2 ^ u % 2 = 1 → 2 ^ u ≤ m) ∧ ∀ v, v < 6 → (mkN m u e / 2 ^ v % 2 = 1 ↔ if v = u then e = true else m / 2 ^ v % 2 = 1) := by decide +kernel
def cxN (f : Nat → Int32) : Nat → Nat
  | 0 => 0
  | k + 1 => cxN f k + if frF f k then 1 else 0
theorem cx_s (f : Nat → Int32) (k : Nat) : cxN f (k + 1) = cxN f k + if frF f k then 1 else 0 := rfl
section Oa
variable {σ : Mem} {b : Nat} {d : Nat → Nat → Int32}
theorem c35 {f U : Nat → Int32} (h : ShS σ b) (hR : RlC d f U) : DoM 35 [.ref b] (sB 17 σ b d) = some (.inl (some (.int (nQ (cxN f 6)))), sB 17 σ b d) := by
  have L : ∀ (r i : Nat), i + r = 6 → RuM 35 (4, [some (.ref b), some (.int (nQ (cxN f i))), some (.int (nQ i))], [], 0, 0) (sB 17 σ b d) = some (.inl (some (.int (nQ (cxN f 6)))), sB 17 σ b d) := by
    intro r
    induction r with
    | zero =>
      intro i e
      obtain rfl : i = 6 := e
      rw [g35_4]
      simp (disch := omega) only [aOk, eq_self, tk_sB, pr_sB, tk_wr, pr_wr, nQ_nat, nQ_neg, nQ_add, nQ_mul, nQ_lt, leF, ltT, ltF, rd_sB, rd_sB0, wr_sB, wr_sB0, cn_l, cn_r, Option.toList, List.cons_append, List.nil_append, if_true, if_false, true_and, and_true, or_false, false_or, true_or, or_true, not_false_eq_true, not_true_eq_false, and_false, false_and, zb_0, zb_1, q10]
    | succ r ih =>
      intro i e
      have hi : i < 6 := by omega
      have ih' := ih (i + 1) (by omega)
      rw [cx_s] at ih'
      have ex := hR.1.2.2 i hi
      rw [g35_4]
      rcases Classical.propComplete (frF f i) with c1 | c1 <;> simp (disch := omega) only [aOk, eq_self, tk_sB, pr_sB, tk_wr, pr_wr, nQ_nat, nQ_neg, nQ_add, nQ_mul, nQ_lt, leF, ltT, ltF, rd_sB, rd_sB0, wr_sB, wr_sB0, cn_l, cn_r, Option.toList, List.cons_append, List.nil_append, if_true, if_false, true_and, and_true, or_false, false_or, true_or, or_true, not_false_eq_true, not_true_eq_false, and_false, false_and, zb_0, zb_1, q10, h.2.1.1, h.2.1.2.1, h.2.1.2.2, h.2.2.1.1, h.2.2.1.2.1, h.2.2.1.2.2.1, h.2.2.1.2.2.2.1, h.2.2.1.2.2.2.2.1, h.2.2.1.2.2.2.2.2.1, h.2.2.1.2.2.2.2.2.2.1, h.2.2.1.2.2.2.2.2.2.2.1, h.2.2.1.2.2.2.2.2.2.2.2, h.2.2.2.1.1, h.2.2.2.1.2.1, h.2.2.2.1.2.2.1, h.2.2.2.1.2.2.2, h.2.2.2.2.1.1, h.2.2.2.2.1.2.1, h.2.2.2.2.1.2.2, h.2.2.2.2.2.1.1, h.2.2.2.2.2.1.2.1, h.2.2.2.2.2.1.2.2.1, h.2.2.2.2.2.1.2.2.2.1, h.2.2.2.2.2.1.2.2.2.2.1, h.2.2.2.2.2.1.2.2.2.2.2.1, h.2.2.2.2.2.1.2.2.2.2.2.2, h.2.2.2.2.2.2.1.1, h.2.2.2.2.2.2.1.2.1, h.2.2.2.2.2.2.1.2.2.1, h.2.2.2.2.2.2.1.2.2.2, h.2.2.2.2.2.2.2.1, h.2.2.2.2.2.2.2.2.1, h.2.2.2.2.2.2.2.2.2, le8 h.1, ex, c1, q10, g35_22] at ih' ⊢ <;> exact ih'
  exact (g35_0).trans (L 6 0 rfl)
theorem Rl_ex {f U : Nat → Int32} (hR : RlC d f U) {u m m' : Nat} (hu : u < 6) (hm : f 3 = nQ m) (hm64 : m < 64) (hm' : m' < 64) (e : Bool) (hb : ∀ v, v < 6 → (m' / 2 ^ v % 2 = 1 ↔ if v = u then e = true else m / 2 ^ v % 2 = 1)) : RlC (rX d 2 (up (d 2) u (if e = true then nQ 1 else nQ 0))) (up f 3 (nQ m')) U := by
  obtain ⟨⟨a1, a2, a3⟩, a4, a5, a6⟩ := hR
  refine ⟨⟨?_, fun r hr => ?_, fun v hv => ?_⟩, fun j hj => ?_, fun a ha => ?_, Lg_congr a6 (fun u h1 h2 => rX_n (by omega)) (fun i h1 h2 => up_n (by omega))⟩
  · rw [rX_n (by omega), up_n (by omega), a1]
  · rw [rX_n (by omega), up_n (by omega), a2 r hr]
  · have e1 : frF (up f 3 (nQ m')) v ↔ if v = u then e = true else m / 2 ^ v % 2 = 1 := by
      unfold frF
      rw [up_s]
      exact (fr_m m' hm' v hv).trans (hb v hv)
    rw [rX_s]
    by_cases c : v = u
    · rw [if_pos c] at e1
      rw [c, up_s]
      rw [c] at e1
      simp only [e1]
    · rw [if_neg c] at e1
      rw [up_n c, a3 v hv]
      have e2 : frF f v ↔ m / 2 ^ v % 2 = 1 := by
        unfold frF
        rw [hm]
        exact fr_m m hm64 v hv
      simp only [e1, e2]
  · rw [rX_n (by omega), rX_n (by omega), rX_n (by omega), rX_n (by omega), up_n (by omega), up_n (by omega), up_n (by omega)]
    exact a4 j hj
  · rw [rX_n (by omega), up_n (by omega), a5 a ha]
end Oa
section Ob
variable {τ : Mem} {f g : Nat → Int32} {H : Nat → Nat → Int32} {c n : Nat}
theorem c97 (w1 : tkM τ 8 = (1, 4)) (w2 : prM τ 8 0 = 9) (hs : ShS τ 9) {key y : Int32} (e6 : DoM 6 [.ref (9 + 8), .int key] τ = some (.inl (some (.int y)), τ)) : DoM 97 [.ref 8, .int key] τ = if y = -1 then none else some (.inl (some (.int y)), τ) := by
  refine (g97_0).trans ?_
  simp only [w1, w2, hs.2.1.1, hs.2.1.2.1, hs.2.1.2.2, hs.2.2.1.1, hs.2.2.1.2.1, hs.2.2.1.2.2.1, hs.2.2.1.2.2.2.1, hs.2.2.1.2.2.2.2.1, hs.2.2.1.2.2.2.2.2.1, hs.2.2.1.2.2.2.2.2.2.1, hs.2.2.1.2.2.2.2.2.2.2.1, hs.2.2.1.2.2.2.2.2.2.2.2, hs.2.2.2.1.1, hs.2.2.2.1.2.1, hs.2.2.2.1.2.2.1, hs.2.2.2.1.2.2.2, hs.2.2.2.2.1.1, hs.2.2.2.2.1.2.1, hs.2.2.2.2.1.2.2, hs.2.2.2.2.2.1.1, hs.2.2.2.2.2.1.2.1, hs.2.2.2.2.2.1.2.2.1, hs.2.2.2.2.2.1.2.2.2.1, hs.2.2.2.2.2.1.2.2.2.2.1, hs.2.2.2.2.2.1.2.2.2.2.2.1, hs.2.2.2.2.2.1.2.2.2.2.2.2, hs.2.2.2.2.2.2.1.1, hs.2.2.2.2.2.2.1.2.1, hs.2.2.2.2.2.2.1.2.2.1, hs.2.2.2.2.2.2.1.2.2.2, hs.2.2.2.2.2.2.2.1, hs.2.2.2.2.2.2.2.2.1, hs.2.2.2.2.2.2.2.2.2, le8 hs.1, if_true, e6, cn_l, Option.toList, List.cons_append, List.nil_append, g97_11]
theorem c6f (h : RV τ f H c) (hn : f 4 = nQ n) (h60 : n ≤ 60) {j : Nat} {key : Int32} (hj : j < n) (hkj : f (5 + 4 * j) = key) : ∃ i, i < n ∧ DoM 6 [.ref (9 + 8), .int key] τ = some (.inl (some (.int (nQ i))), τ) ∧ rw_ τ 9 9 i = key := by
  obtain ⟨hR, hF, hI⟩ := RV_n h hn h60
  obtain ⟨y, e6, hy⟩ := c6 (d := rw_ τ 9) h.1.1.2.1.1 hF.1 hF.2.2.1 key
  rw [sB_rw] at e6
  rcases hy with ⟨i, hi, rfl, hk⟩ | ⟨rfl, hk⟩
  · exact ⟨i, hi, e6, hk⟩
  · obtain ⟨i, hi, e⟩ := fl_fro hF hj
    exact absurd ((congrArg (·.1) e).trans hkj) (hk i hi)
abbrev r0Q : Nat → Int32 := fun _ => nQ 0

theorem o45 (h : RW τ f H c g) (hn : f 4 = nQ n) (h60 : n ≤ 60) (hlt : n < 60) {u g0 v w z : Nat} (hu : u ≤ 5) (hg : g0 ≤ 2) (hv : v ≤ 9) (hw : w ≤ 99) (hz : z ≤ 5000) (hfr : ∀ i, i < n → ¬ f (5 + 4 * i) = nQ (100 * v + w)) : OpR τ 45 [.int (nQ u), .int (nQ g0), .int (nQ v), .int (nQ w), .int (nQ z)] (nQ (raN f n (riF r0Q (nQ z) (nQ 1) (nQ z) (nQ 1)) u g0)) (crF f n (riF r0Q (nQ z) (nQ 1) (nQ z) (nQ 1)) u g0 (nQ (100 * v + w)) (nQ z)) g (hpF H c f) (csN c) := by
  obtain ⟨hR, hF, hI⟩ := RV_n h.1 hn h60
  have w1 : tkM τ 8 = (1, 4) := h.1.1.1.1.1
  have w2 : prM τ 8 0 = 9 := h.1.1.1.1.2.1
  have hs : ShS τ 9 := h.1.1.1.2.1.1
  have x1 : inP (nQ u) (nQ 0) (nQ 5) := in_Q hu (by decide)
  have x2 : inP (nQ g0) (nQ 0) (nQ 2) := in_Q hg (by decide)
  have x3 : inP (nQ v) (nQ 0) (nQ 9) ∧ inP (nQ w) (nQ 0) (nQ 99) := ⟨in_Q hv (by decide), in_Q hw (by decide)⟩
  have x4 : inP (nQ z) (nQ 0) (nQ 5000) := in_Q hz (by decide)
  have key : nQ 100 * nQ v + nQ w = nQ (100 * v + w) := by rw [nQ_mul, nQ_add]
  have e16 := c16 (d := rw_ τ 9) hs hF.1 hF.2.2.1 (nQ (100 * v + w))
  rw [sB_rw] at e16
  have hcan : n < 60 ∧ ∀ i, i < n → ¬ rw_ τ 9 9 i = nQ (100 * v + w) := ⟨hlt, fun i hi e => by
    obtain ⟨j, hj, e'⟩ := fl_to hF hi
    exact hfr j hj ((congrArg (·.1) e').trans e)⟩
  rw [if_pos hcan] at e16
  obtain ⟨τ1, hK⟩ := Kp_ex h.1
  obtain ⟨⟨kR, kF, kI⟩, krow⟩ := Kp_n h.1 hK hn h60
  have v1 : tkM τ1 8 = (1, 4) := hK.2.1.1.1
  have v2 : prM τ1 8 0 = 9 := hK.2.1.1.2.1
  have hs1 : ShS τ1 9 := hK.2.1.2.1.1
  have k1 := Kp_w hK
  obtain ⟨d', y1, y2, y3⟩ := c17 hs1 kR kF (fun k _ => rfl) hlt (u := u) (g := g0) (by omega) (by omega) hz (nQ (100 * v + w)) r0Q
  refine Op_of h hK ?_ ⟨_, y2, y3, IF_cr hlt kI _ (by omega) (by omega) hz hfr⟩
  refine (g45_0).trans ?_
  simp (disch := omega) only [cn_l, Option.toList, List.cons_append, List.nil_append, if_true, if_false, tk_sB, pr_sB, c87, c88, c93, c94, eq_true x1, eq_true x2, eq_true x3, eq_true x4, key, w1, w2, hs.2.1.1, e16, q10, k1, v1, v2, hs1.2.1.1, y1, g45_4, g45_8, g45_14, g45_21, g45_30, g45_47, g45_60]
theorem o46 (h : RW τ f H c g) (hn : f 4 = nQ n) (h60 : n ≤ 60) {v w z : Nat} {j u0 g0 s : Nat} (hv : v ≤ 9) (hw : w ≤ 99) (hj : j < n) (hkj : f (5 + 4 * j) = nQ (100 * v + w)) (hu0 : u0 < 6) (hg0 : g0 < 3) (hs0 : s ≤ 5000) (eu : f (5 + 4 * j + 1) = nQ u0) (eg : f (5 + 4 * j + 2) = nQ g0) (es : f (5 + 4 * j + 3) = nQ s) (hz : z ≤ 5000) : OpR τ 46 [.int (nQ v), .int (nQ w), .int (nQ z)] (nQ (raN f n (riF r0Q (moF f j (nQ z)) (nQ 0) (moF f j (nQ z)) (nQ 0)) u0 g0)) (rsF f n (riF r0Q (moF f j (nQ z)) (nQ 0) (moF f j (nQ z)) (nQ 0)) u0 g0 j (nQ z)) g (hpF H c f) (csN c) := by
  obtain ⟨hR, hF, hI⟩ := RV_n h.1 hn h60
  have w1 : tkM τ 8 = (1, 4) := h.1.1.1.1.1
  have w2 : prM τ 8 0 = 9 := h.1.1.1.1.2.1
  have hs : ShS τ 9 := h.1.1.1.2.1.1
  have x3 : inP (nQ v) (nQ 0) (nQ 9) ∧ inP (nQ w) (nQ 0) (nQ 99) := ⟨in_Q hv (by decide), in_Q hw (by decide)⟩
  have key : nQ 100 * nQ v + nQ w = nQ (100 * v + w) := by rw [nQ_mul, nQ_add]
  obtain ⟨i, hi, e6, hk⟩ := c6f h.1 hn h60 hj hkj
  have ej := nQ_m1 (i := i) (by omega)
  have x4 : inP (nQ z) (nQ 0) (nQ 5000) := in_Q hz (by decide)
  obtain ⟨τ1, hK⟩ := Kp_ex h.1
  obtain ⟨⟨kR, kF, kI⟩, krow⟩ := Kp_n h.1 hK hn h60
  have v1 : tkM τ1 8 = (1, 4) := hK.2.1.1.1
  have v2 : prM τ1 8 0 = 9 := hK.2.1.1.2.1
  have hs1 : ShS τ1 9 := hK.2.1.2.1.1
  have k1 := Kp_w hK
  have kk : rw_ τ1 9 9 i = f (5 + 4 * j) := by
    rw [krow 9 (by decide)]
    exact hk.trans hkj.symm
  obtain ⟨d', y1, y2, y3⟩ := c18 hs1 kR kF (fun k _ => rfl) kI.1.2.1 hi hj kk hu0 hg0 hs0 hz eu eg es r0Q
  refine Op_of h hK ?_ ⟨_, y2, y3, IF_rs h60 kI _ hu0 hg0 hz hj⟩
  refine (g46_0).trans ?_
  simp (disch := omega) only [cn_l, Option.toList, List.cons_append, List.nil_append, if_true, if_false, tk_sB, pr_sB, c93, c94, eq_true x3, eq_true x4, key, w1, w2, hs.2.1.1, hs.2.1.2.1, hs.2.1.2.2, hs.2.2.1.1, hs.2.2.1.2.1, hs.2.2.1.2.2.1, hs.2.2.1.2.2.2.1, hs.2.2.1.2.2.2.2.1, hs.2.2.1.2.2.2.2.2.1, hs.2.2.1.2.2.2.2.2.2.1, hs.2.2.1.2.2.2.2.2.2.2.1, hs.2.2.1.2.2.2.2.2.2.2.2, hs.2.2.2.1.1, hs.2.2.2.1.2.1, hs.2.2.2.1.2.2.1, hs.2.2.2.1.2.2.2, hs.2.2.2.2.1.1, hs.2.2.2.2.1.2.1, hs.2.2.2.2.1.2.2, hs.2.2.2.2.2.1.1, hs.2.2.2.2.2.1.2.1, hs.2.2.2.2.2.1.2.2.1, hs.2.2.2.2.2.1.2.2.2.1, hs.2.2.2.2.2.1.2.2.2.2.1, hs.2.2.2.2.2.1.2.2.2.2.2.1, hs.2.2.2.2.2.1.2.2.2.2.2.2, hs.2.2.2.2.2.2.1.1, hs.2.2.2.2.2.2.1.2.1, hs.2.2.2.2.2.2.1.2.2.1, hs.2.2.2.2.2.2.1.2.2.2, hs.2.2.2.2.2.2.2.1, hs.2.2.2.2.2.2.2.2.1, hs.2.2.2.2.2.2.2.2.2, le8 hs.1, c97 w1 w2 hs e6, ej, k1, v1, v2, hs1.2.1.1, y1, g46_5, g46_11, g46_17, g46_23, g46_33]
theorem o47 {n0 : Nat} (h : RW τ f H c g) (hn : f 4 = nQ (n0 + 1)) (h60 : n0 + 1 ≤ 60) {v w : Nat} {j u0 g0 s : Nat} (hv : v ≤ 9) (hw : w ≤ 99) (hj : j < n0 + 1) (hkj : f (5 + 4 * j) = nQ (100 * v + w)) (hu0 : u0 < 6) (hg0 : g0 < 3) (hs0 : s ≤ 5000) (eu : f (5 + 4 * j + 1) = nQ u0) (eg : f (5 + 4 * j + 2) = nQ g0) (es : f (5 + 4 * j + 3) = nQ s) : OpR τ 47 [.int (nQ v), .int (nQ w)] (nQ s) (deF f (n0 + 1) j) g (hpF H c f) (csN c) := by
  obtain ⟨hR, hF, hI⟩ := RV_n h.1 hn h60
  have w1 : tkM τ 8 = (1, 4) := h.1.1.1.1.1
  have w2 : prM τ 8 0 = 9 := h.1.1.1.1.2.1
  have hs : ShS τ 9 := h.1.1.1.2.1.1
  have x3 : inP (nQ v) (nQ 0) (nQ 9) ∧ inP (nQ w) (nQ 0) (nQ 99) := ⟨in_Q hv (by decide), in_Q hw (by decide)⟩
  have key : nQ 100 * nQ v + nQ w = nQ (100 * v + w) := by rw [nQ_mul, nQ_add]
  obtain ⟨i, hi, e6, hk⟩ := c6f h.1 hn h60 hj hkj
  have ej := nQ_m1 (i := i) (by omega)
  obtain ⟨τ1, hK⟩ := Kp_ex h.1
  obtain ⟨⟨kR, kF, kI⟩, krow⟩ := Kp_n h.1 hK hn h60
  have v1 : tkM τ1 8 = (1, 4) := hK.2.1.1.1
  have v2 : prM τ1 8 0 = 9 := hK.2.1.1.2.1
  have hs1 : ShS τ1 9 := hK.2.1.2.1.1
  have k1 := Kp_w hK
  have kk : rw_ τ1 9 9 i = f (5 + 4 * j) := by
    rw [krow 9 (by decide)]
    exact hk.trans hkj.symm
  obtain ⟨d', y1, y2, y3⟩ := c20 hs1 kR kF (fun k _ => rfl) kI.1.2.1 hi hj kk hu0 hg0 eu eg es
  refine Op_of h hK ?_ ⟨n0, y2, y3, IF_de (by omega) kI hj⟩
  refine (g47_0).trans ?_
  simp (disch := omega) only [cn_l, Option.toList, List.cons_append, List.nil_append, if_true, if_false, tk_sB, pr_sB, c93, eq_true x3, key, w1, w2, hs.2.1.1, hs.2.1.2.1, hs.2.1.2.2, hs.2.2.1.1, hs.2.2.1.2.1, hs.2.2.1.2.2.1, hs.2.2.1.2.2.2.1, hs.2.2.1.2.2.2.2.1, hs.2.2.1.2.2.2.2.2.1, hs.2.2.1.2.2.2.2.2.2.1, hs.2.2.1.2.2.2.2.2.2.2.1, hs.2.2.1.2.2.2.2.2.2.2.2, hs.2.2.2.1.1, hs.2.2.2.1.2.1, hs.2.2.2.1.2.2.1, hs.2.2.2.1.2.2.2, hs.2.2.2.2.1.1, hs.2.2.2.2.1.2.1, hs.2.2.2.2.1.2.2, hs.2.2.2.2.2.1.1, hs.2.2.2.2.2.1.2.1, hs.2.2.2.2.2.1.2.2.1, hs.2.2.2.2.2.1.2.2.2.1, hs.2.2.2.2.2.1.2.2.2.2.1, hs.2.2.2.2.2.1.2.2.2.2.2.1, hs.2.2.2.2.2.1.2.2.2.2.2.2, hs.2.2.2.2.2.2.1.1, hs.2.2.2.2.2.2.1.2.1, hs.2.2.2.2.2.2.1.2.2.1, hs.2.2.2.2.2.2.1.2.2.2, hs.2.2.2.2.2.2.2.1, hs.2.2.2.2.2.2.2.2.1, hs.2.2.2.2.2.2.2.2.2, le8 hs.1, c97 w1 w2 hs e6, ej, k1, v1, v2, hs1.2.1.1, y1, g47_5, g47_11, g47_17, g47_26]
theorem o48 (h : RW τ f H c g) (hn : f 4 = nQ n) (h60 : n ≤ 60) {v w u g1 : Nat} {j u0 g0 s : Nat} (hv : v ≤ 9) (hw : w ≤ 99) (hj : j < n) (hkj : f (5 + 4 * j) = nQ (100 * v + w)) (hu0 : u0 < 6) (hg0 : g0 < 3) (hs0 : s ≤ 5000) (eu : f (5 + 4 * j + 1) = nQ u0) (eg : f (5 + 4 * j + 2) = nQ g0) (es : f (5 + 4 * j + 3) = nQ s) (hu : u ≤ 5) (hg : g1 ≤ 2) : OpR τ 48 [.int (nQ v), .int (nQ w), .int (nQ u), .int (nQ g1)] (nQ (raN f n (mrF f r0Q u g1 j) u g1)) (mvF f n (mrF f r0Q u g1 j) u g1 j) g (hpF H c f) (csN c) := by
  obtain ⟨hR, hF, hI⟩ := RV_n h.1 hn h60
  have w1 : tkM τ 8 = (1, 4) := h.1.1.1.1.1
  have w2 : prM τ 8 0 = 9 := h.1.1.1.1.2.1
  have hs : ShS τ 9 := h.1.1.1.2.1.1
  have x3 : inP (nQ v) (nQ 0) (nQ 9) ∧ inP (nQ w) (nQ 0) (nQ 99) := ⟨in_Q hv (by decide), in_Q hw (by decide)⟩
  have key : nQ 100 * nQ v + nQ w = nQ (100 * v + w) := by rw [nQ_mul, nQ_add]
  obtain ⟨i, hi, e6, hk⟩ := c6f h.1 hn h60 hj hkj
  have ej := nQ_m1 (i := i) (by omega)
  have x1 : inP (nQ u) (nQ 0) (nQ 5) := in_Q hu (by decide)
  have x2 : inP (nQ g1) (nQ 0) (nQ 2) := in_Q hg (by decide)
  obtain ⟨τ1, hK⟩ := Kp_ex h.1
  obtain ⟨⟨kR, kF, kI⟩, krow⟩ := Kp_n h.1 hK hn h60
  have v1 : tkM τ1 8 = (1, 4) := hK.2.1.1.1
  have v2 : prM τ1 8 0 = 9 := hK.2.1.1.2.1
  have hs1 : ShS τ1 9 := hK.2.1.2.1.1
  have k1 := Kp_w hK
  have kk : rw_ τ1 9 9 i = f (5 + 4 * j) := by
    rw [krow 9 (by decide)]
    exact hk.trans hkj.symm
  obtain ⟨d', y1, y2, y3⟩ := c21 hs1 kR kF (fun k _ => rfl) kI.1.2.1 hi hj kk hu0 hg0 hs0 eu eg es (u := u) (g := g1) (by omega) (by omega) r0Q
  refine Op_of h hK ?_ ⟨_, y2, y3, IF_mv h60 kI _ (by omega) (by omega) hj⟩
  refine (g48_0).trans ?_
  simp (disch := omega) only [cn_l, Option.toList, List.cons_append, List.nil_append, if_true, if_false, tk_sB, pr_sB, c93, c87, c88, eq_true x3, eq_true x1, eq_true x2, key, w1, w2, hs.2.1.1, hs.2.1.2.1, hs.2.1.2.2, hs.2.2.1.1, hs.2.2.1.2.1, hs.2.2.1.2.2.1, hs.2.2.1.2.2.2.1, hs.2.2.1.2.2.2.2.1, hs.2.2.1.2.2.2.2.2.1, hs.2.2.1.2.2.2.2.2.2.1, hs.2.2.1.2.2.2.2.2.2.2.1, hs.2.2.1.2.2.2.2.2.2.2.2, hs.2.2.2.1.1, hs.2.2.2.1.2.1, hs.2.2.2.1.2.2.1, hs.2.2.2.1.2.2.2, hs.2.2.2.2.1.1, hs.2.2.2.2.1.2.1, hs.2.2.2.2.1.2.2, hs.2.2.2.2.2.1.1, hs.2.2.2.2.2.1.2.1, hs.2.2.2.2.2.1.2.2.1, hs.2.2.2.2.2.1.2.2.2.1, hs.2.2.2.2.2.1.2.2.2.2.1, hs.2.2.2.2.2.1.2.2.2.2.2.1, hs.2.2.2.2.2.1.2.2.2.2.2.2, hs.2.2.2.2.2.2.1.1, hs.2.2.2.2.2.2.1.2.1, hs.2.2.2.2.2.2.1.2.2.1, hs.2.2.2.2.2.2.1.2.2.2, hs.2.2.2.2.2.2.2.1, hs.2.2.2.2.2.2.2.2.1, hs.2.2.2.2.2.2.2.2.2, le8 hs.1, c97 w1 w2 hs e6, ej, k1, v1, v2, hs1.2.1.1, y1, g48_5, g48_11, g48_16, g48_22, g48_28, g48_40]
theorem o49 (h : RW τ f H c g) (hn : f 4 = nQ n) (h60 : n ≤ 60) {a r s z : Nat} (ha : a ≤ 8) (hr : r ≤ 1) (hs5 : s ≤ 100000) (hz5 : z ≤ 100000) (hy : s = 0 ∨ z = 0 ∨ s ≤ z) : OpR τ 49 [.int (nQ a), .int (nQ r), .int (nQ s), .int (nQ z)] (usF f (nQ a) r n) (slF f n a r (nQ s) (nQ z)) g (hpF H c f) (csN c) := by
  obtain ⟨hR, hF, hI⟩ := RV_n h.1 hn h60
  have w1 : tkM τ 8 = (1, 4) := h.1.1.1.1.1
  have w2 : prM τ 8 0 = 9 := h.1.1.1.1.2.1
  have hs : ShS τ 9 := h.1.1.1.2.1.1
  have hx : inP (nQ a) (nQ 0) (nQ 8) ∧ inP (nQ r) (nQ 0) (nQ 1) := ⟨in_Q ha (by decide), in_Q hr (by decide)⟩
  have iq : ∀ {m : Nat}, m ≤ 100000 → inP (nQ m) (nQ 0) (nQ 100000) := fun {m} hm => ⟨by rw [nQ_lt (by omega) (by omega)]; omega, by rw [nQ_lt (by omega) (by omega)]; omega⟩
  have hy : arP (nQ s) (nQ z) := ⟨iq hs5, iq hz5, by
    rw [nQ_eq (by omega) (by decide), nQ_eq (by omega) (by decide), nQ_lt (by omega) (by omega)]
    omega⟩
  obtain ⟨τ1, hK⟩ := Kp_ex h.1
  obtain ⟨⟨kR, kF, kI⟩, krow⟩ := Kp_n h.1 hK hn h60
  have v1 : tkM τ1 8 = (1, 4) := hK.2.1.1.1
  have v2 : prM τ1 8 0 = 9 := hK.2.1.1.2.1
  have hs1 : ShS τ1 9 := hK.2.1.2.1.1
  have k1 := Kp_w hK
  have hk : 2 * a + r < 18 := by omega
  have ek : (2 * a + r) / 2 = a := by omega
  have er : 2 * a + r - (2 * a + r) / 2 * 2 = r := by omega
  have hRl := Rl_lim kR hk (nQ s) (nQ z)
  have hF2 : ∀ i, 4 ≤ i → i < 245 → up (up f (245 + (2 * a + r)) (nQ s)) (263 + (2 * a + r)) (nQ z) i = f i := fun i h1 h2 => by rw [up_n (by omega), up_n (by omega)]
  obtain ⟨d', y1, y2, y3⟩ := c28 hs1 hRl hk
  have hU : usF f (nQ ((2 * a + r) / 2)) (2 * a + r - (2 * a + r) / 2 * 2) n = usF (up (up f (245 + (2 * a + r)) (nQ s)) (263 + (2 * a + r)) (nQ z)) (nQ ((2 * a + r) / 2)) (2 * a + r - (2 * a + r) / 2 * 2) n := (us_c2 h60 _ _ (fun i h1 h2 => hF2 i (by omega) h2)).symm
  rw [rv_k _ _ hU, ek, show 2 * a + r - a * 2 = r by omega] at y2
  have esl : rvF (up (up f (245 + (2 * a + r)) (nQ s)) (263 + (2 * a + r)) (nQ z)) n a r = slF f n a r (nQ s) (nQ z) := by
    unfold slF
    rw [Nat.add_assoc, Nat.add_assoc]
  rw [esl] at y2
  have hlo : ∀ i, 4 ≤ i → i < 245 → slF f n a r (nQ s) (nQ z) i = f i := fun i h1 h2 => by
    unfold slF
    rw [q_rv _ _ _ _ hk (Or.inl (by omega)), up_n (by omega), up_n (by omega)]
  have hUa : ∀ k, k < 18 → usF (slF f n a r (nQ s) (nQ z)) (nQ (k / 2)) (k - k / 2 * 2) n = usF f (nQ (k / 2)) (k - k / 2 * 2) n := fun k _ => us_c2 h60 _ _ (fun i h1 h2 => hlo i (by omega) h2)
  have hval : d' 3 (2 * a + r) = usF f (nQ a) r n := by
    refine (y2.2.1 _ hk).1.trans ?_
    dsimp only
    rw [ek, show 2 * a + r - a * 2 = r by omega]
  have hF3 : FlR d' (slF f n a r (nQ s) (nQ z)) n := Fl_cg kF (fun u h1 h2 => by rw [y3 u h1 h2, rX_n (by omega), rX_n (by omega)]) hlo
  refine Op_of h hK ?_ ⟨n, Rl_U y2 hUa, hF3, IF_sl h60 kI (by omega) (by omega) hs5 hz5⟩
  refine (g49_0).trans ?_
  rw [← hval]
  simp (disch := omega) only [cn_l, Option.toList, List.cons_append, List.nil_append, if_true, if_false, tk_sB, pr_sB, aOk, nQ_nat, nQ_neg, nQ_add, nQ_mul, leF, rd_sB, rd_sB0, wr_sB, wr_sB0, true_and, and_true, or_false, false_or, not_false_eq_true, c91, c95, eq_true hx, eq_true hy, w1, w2, k1, v1, v2, hs1.2.1.1, hs1.2.1.2.1, hs1.2.1.2.2, hs1.2.2.1.1, hs1.2.2.1.2.1, hs1.2.2.1.2.2.1, hs1.2.2.1.2.2.2.1, hs1.2.2.1.2.2.2.2.1, hs1.2.2.1.2.2.2.2.2.1, hs1.2.2.1.2.2.2.2.2.2.1, hs1.2.2.1.2.2.2.2.2.2.2.1, hs1.2.2.1.2.2.2.2.2.2.2.2, hs1.2.2.2.1.1, hs1.2.2.2.1.2.1, hs1.2.2.2.1.2.2.1, hs1.2.2.2.1.2.2.2, hs1.2.2.2.2.1.1, hs1.2.2.2.2.1.2.1, hs1.2.2.2.2.1.2.2, hs1.2.2.2.2.2.1.1, hs1.2.2.2.2.2.1.2.1, hs1.2.2.2.2.2.1.2.2.1, hs1.2.2.2.2.2.1.2.2.2.1, hs1.2.2.2.2.2.1.2.2.2.2.1, hs1.2.2.2.2.2.1.2.2.2.2.2.1, hs1.2.2.2.2.2.1.2.2.2.2.2.2, hs1.2.2.2.2.2.2.1.1, hs1.2.2.2.2.2.2.1.2.1, hs1.2.2.2.2.2.2.1.2.2.1, hs1.2.2.2.2.2.2.1.2.2.2, hs1.2.2.2.2.2.2.2.1, hs1.2.2.2.2.2.2.2.2.1, hs1.2.2.2.2.2.2.2.2.2, le8 hs1.1, rX_n, y1, g49_5, g49_13, g49_17, g49_28, g49_40, g49_49]
theorem o50 (h : RW τ f H c g) (hn : f 4 = nQ n) (h60 : n ≤ 60) {r z : Nat} (hr : r ≤ 1) (hz1 : 1 ≤ z) (hz : z ≤ 60) : OpR τ 50 [.int (nQ r), .int (nQ z)] (f (1 + r)) (up f (1 + r) (nQ z)) g (hpF H c f) (csN c) := by
  obtain ⟨hR, hF, hI⟩ := RV_n h.1 hn h60
  have w1 : tkM τ 8 = (1, 4) := h.1.1.1.1.1
  have w2 : prM τ 8 0 = 9 := h.1.1.1.1.2.1
  have hs : ShS τ 9 := h.1.1.1.2.1.1
  have hx : inP (nQ r) (nQ 0) (nQ 1) := in_Q hr (by decide)
  have hy : inP (nQ z) (nQ 1) (nQ 60) := ⟨by rw [nQ_lt (by omega) (by omega)]; omega, by rw [nQ_lt (by omega) (by omega)]; omega⟩
  obtain ⟨τ1, hK⟩ := Kp_ex h.1
  obtain ⟨⟨kR, kF, kI⟩, krow⟩ := Kp_n h.1 hK hn h60
  have v1 : tkM τ1 8 = (1, 4) := hK.2.1.1.1
  have v2 : prM τ1 8 0 = 9 := hK.2.1.1.2.1
  have hs1 : ShS τ1 9 := hK.2.1.2.1.1
  have k1 := Kp_w hK
  have e1 : rw_ τ1 9 1 r = f (1 + r) := kR.1.2.1 r (by omega)
  refine Op_of h hK (d' := rX (rw_ τ1 9) 1 (up (rw_ τ1 9 1) r (nQ z))) ?_ ⟨n, Rl_U (Rl_gl kR (by omega) (nQ z)) (fun k _ => us_c2 h60 _ _ (fun i h1 h2 => up_n (by omega))), Fl_cg kF (fun u h1 h2 => rX_n (by omega)) (fun i h1 h2 => up_n (by omega)), IA_cg h60 kI.1 (fun i h1 h2 => up_n (by omega)), IB_cg h60 kI.2 (fun i h1 h2 => up_n (by omega))⟩
  refine (g50_0).trans ?_
  simp (disch := omega) only [cn_l, Option.toList, List.cons_append, List.nil_append, if_true, if_false, tk_sB, pr_sB, aOk, nQ_nat, nQ_neg, nQ_add, nQ_mul, leF, rd_sB, rd_sB0, wr_sB, wr_sB0, true_and, and_true, or_false, false_or, not_false_eq_true, c90, eq_true hx, hy.1, hy.2, w1, w2, k1, v1, v2, hs1.2.1.1, hs1.2.1.2.1, hs1.2.1.2.2, hs1.2.2.1.1, hs1.2.2.1.2.1, hs1.2.2.1.2.2.1, hs1.2.2.1.2.2.2.1, hs1.2.2.1.2.2.2.2.1, hs1.2.2.1.2.2.2.2.2.1, hs1.2.2.1.2.2.2.2.2.2.1, hs1.2.2.1.2.2.2.2.2.2.2.1, hs1.2.2.1.2.2.2.2.2.2.2.2, hs1.2.2.2.1.1, hs1.2.2.2.1.2.1, hs1.2.2.2.1.2.2.1, hs1.2.2.2.1.2.2.2, hs1.2.2.2.2.1.1, hs1.2.2.2.2.1.2.1, hs1.2.2.2.2.1.2.2, hs1.2.2.2.2.2.1.1, hs1.2.2.2.2.2.1.2.1, hs1.2.2.2.2.2.1.2.2.1, hs1.2.2.2.2.2.1.2.2.2.1, hs1.2.2.2.2.2.1.2.2.2.2.1, hs1.2.2.2.2.2.1.2.2.2.2.2.1, hs1.2.2.2.2.2.1.2.2.2.2.2.2, hs1.2.2.2.2.2.2.1.1, hs1.2.2.2.2.2.2.1.2.1, hs1.2.2.2.2.2.2.1.2.2.1, hs1.2.2.2.2.2.2.1.2.2.2, hs1.2.2.2.2.2.2.2.1, hs1.2.2.2.2.2.2.2.2.1, hs1.2.2.2.2.2.2.2.2.2, le8 hs1.1, e1, g50_4, g50_29, g50_49]
theorem o51 (h : RW τ f H c g) (hn : f 4 = nQ n) (h60 : n ≤ 60) {a r : Nat} (ha : a ≤ 8) (hr : r ≤ 1) (hst : ¬ f (281 + 2 * a + r) = -1) : OpR τ 51 [.int (nQ a), .int (nQ r)] (f (281 + 2 * a + r)) (up f (281 + 2 * a + r) (f 0)) g (hpF H c f) (csN c) := by
  obtain ⟨hR, hF, hI⟩ := RV_n h.1 hn h60
  have w1 : tkM τ 8 = (1, 4) := h.1.1.1.1.1
  have w2 : prM τ 8 0 = 9 := h.1.1.1.1.2.1
  have hs : ShS τ 9 := h.1.1.1.2.1.1
  have hx : inP (nQ a) (nQ 0) (nQ 8) ∧ inP (nQ r) (nQ 0) (nQ 1) := ⟨in_Q ha (by decide), in_Q hr (by decide)⟩
  have hk : 2 * a + r < 18 := by omega
  have r29 := c29 (d := rw_ τ 9) hs hR hk
  rw [sB_rw] at r29
  have ea : 281 + (2 * a + r) = 281 + 2 * a + r := by omega
  rw [ea, if_neg hst] at r29
  obtain ⟨τ1, hK⟩ := Kp_ex h.1
  obtain ⟨⟨kR, kF, kI⟩, krow⟩ := Kp_n h.1 hK hn h60
  have v1 : tkM τ1 8 = (1, 4) := hK.2.1.1.1
  have v2 : prM τ1 8 0 = 9 := hK.2.1.1.2.1
  have hs1 : ShS τ1 9 := hK.2.1.2.1.1
  have k1 := Kp_w hK
  have e1 : rw_ τ1 9 6 (2 * a + r) = f (281 + 2 * a + r) := by
    rw [(kR.2.1 _ hk).2.2.2, ea]
  have e0 : rw_ τ1 9 0 0 = f 0 := kR.1.1
  refine Op_of h hK (d' := rX (rw_ τ1 9) 6 (up (rw_ τ1 9 6) (2 * a + r) (f 0))) ?_ ?_
  · refine (g51_0).trans ?_
    simp (disch := omega) only [cn_l, Option.toList, List.cons_append, List.nil_append, if_true, if_false, tk_sB, pr_sB, aOk, nQ_nat, nQ_neg, nQ_add, nQ_mul, leF, rd_sB, rd_sB0, wr_sB, wr_sB0, true_and, and_true, or_false, false_or, not_false_eq_true, c91, eq_true hx, q10, w1, w2, hs.2.1.1, hs.2.1.2.1, hs.2.1.2.2, hs.2.2.1.1, hs.2.2.1.2.1, hs.2.2.1.2.2.1, hs.2.2.1.2.2.2.1, hs.2.2.1.2.2.2.2.1, hs.2.2.1.2.2.2.2.2.1, hs.2.2.1.2.2.2.2.2.2.1, hs.2.2.1.2.2.2.2.2.2.2.1, hs.2.2.1.2.2.2.2.2.2.2.2, hs.2.2.2.1.1, hs.2.2.2.1.2.1, hs.2.2.2.1.2.2.1, hs.2.2.2.1.2.2.2, hs.2.2.2.2.1.1, hs.2.2.2.2.1.2.1, hs.2.2.2.2.1.2.2, hs.2.2.2.2.2.1.1, hs.2.2.2.2.2.1.2.1, hs.2.2.2.2.2.1.2.2.1, hs.2.2.2.2.2.1.2.2.2.1, hs.2.2.2.2.2.1.2.2.2.2.1, hs.2.2.2.2.2.1.2.2.2.2.2.1, hs.2.2.2.2.2.1.2.2.2.2.2.2, hs.2.2.2.2.2.2.1.1, hs.2.2.2.2.2.2.1.2.1, hs.2.2.2.2.2.2.1.2.2.1, hs.2.2.2.2.2.2.1.2.2.2, hs.2.2.2.2.2.2.2.1, hs.2.2.2.2.2.2.2.2.1, hs.2.2.2.2.2.2.2.2.2, le8 hs.1, r29, k1, v1, v2, hs1.2.1.1, hs1.2.1.2.1, hs1.2.1.2.2, hs1.2.2.1.1, hs1.2.2.1.2.1, hs1.2.2.1.2.2.1, hs1.2.2.1.2.2.2.1, hs1.2.2.1.2.2.2.2.1, hs1.2.2.1.2.2.2.2.2.1, hs1.2.2.1.2.2.2.2.2.2.1, hs1.2.2.1.2.2.2.2.2.2.2.1, hs1.2.2.1.2.2.2.2.2.2.2.2, hs1.2.2.2.1.1, hs1.2.2.2.1.2.1, hs1.2.2.2.1.2.2.1, hs1.2.2.2.1.2.2.2, hs1.2.2.2.2.1.1, hs1.2.2.2.2.1.2.1, hs1.2.2.2.2.1.2.2, hs1.2.2.2.2.2.1.1, hs1.2.2.2.2.2.1.2.1, hs1.2.2.2.2.2.1.2.2.1, hs1.2.2.2.2.2.1.2.2.2.1, hs1.2.2.2.2.2.1.2.2.2.2.1, hs1.2.2.2.2.2.1.2.2.2.2.2.1, hs1.2.2.2.2.2.1.2.2.2.2.2.2, hs1.2.2.2.2.2.2.1.1, hs1.2.2.2.2.2.2.1.2.1, hs1.2.2.2.2.2.2.1.2.2.1, hs1.2.2.2.2.2.2.1.2.2.2, hs1.2.2.2.2.2.2.2.1, hs1.2.2.2.2.2.2.2.2.1, hs1.2.2.2.2.2.2.2.2.2, le8 hs1.1, e1, e0, g51_5, g51_14, g51_31, g51_58]
  · rw [← ea]
    refine ⟨n, Rl_U (Rl_st kR hk (f 0)) (fun k _ => us_c2 h60 _ _ (fun i h1 h2 => up_n (by omega))), Fl_cg kF (fun u h1 h2 => rX_n (by omega)) (fun i h1 h2 => up_n (by omega)), IA_cg h60 kI.1 (fun i h1 h2 => up_n (by omega)), fun k hk' hk2 => ?_⟩
    rw [up_n (by omega), us_c2 (f := f) h60 _ _ (fun i h1 h2 => up_n (by omega))]
    refine kI.2 k hk' ?_
    by_cases e : k = 2 * a + r
    · rw [e, ea]
      exact hst
    · rw [up_n (by omega)] at hk2
      exact hk2
theorem o52 (h : RW τ f H c g) (hn : f 4 = nQ n) (h60 : n ≤ 60) {u m : Nat} (hu : u < 6) (hm3 : f 3 = nQ m) (hm64 : m < 64) (e : Bool) : OpR τ 52 [.int (nQ u), .int (if e = true then nQ 1 else nQ 0)] (nQ (cxN (up f 3 (nQ (mkN m u e))) 6)) (up f 3 (nQ (mkN m u e))) g (hpF H c f) (csN c) := by
  obtain ⟨hR, hF, hI⟩ := RV_n h.1 hn h60
  have w1 : tkM τ 8 = (1, 4) := h.1.1.1.1.1
  have w2 : prM τ 8 0 = 9 := h.1.1.1.1.2.1
  have hs : ShS τ 9 := h.1.1.1.2.1.1
  have hx : inP (nQ u) (nQ 0) (nQ 5) := in_Q (by omega) (by decide)
  obtain ⟨τ1, hK⟩ := Kp_ex h.1
  obtain ⟨⟨kR, kF, kI⟩, krow⟩ := Kp_n h.1 hK hn h60
  have v1 : tkM τ1 8 = (1, 4) := hK.2.1.1.1
  have v2 : prM τ1 8 0 = 9 := hK.2.1.1.2.1
  have hs1 : ShS τ1 9 := hK.2.1.2.1.1
  have k1 := Kp_w hK
  obtain ⟨g1, g2, g3⟩ := mk_m m hm64 u hu e
  have hR2 := Rl_ex kR hu hm3 hm64 g1 e g3
  have r35 := c35 hs1 hR2
  have ez : (if e = true then nQ 1 else nQ 0) &&& nQ 1 = if e = true then nQ 1 else nQ 0 := by cases e <;> decide
  refine Op_of h hK (d' := rX (rw_ τ1 9) 2 (up (rw_ τ1 9 2) u (if e = true then nQ 1 else nQ 0))) ?_ ?_
  · refine (g52_0).trans ?_
    simp (disch := omega) only [cn_l, Option.toList, List.cons_append, List.nil_append, if_true, if_false, tk_sB, pr_sB, aOk, nQ_nat, nQ_neg, nQ_add, nQ_mul, leF, rd_sB, rd_sB0, wr_sB, wr_sB0, true_and, and_true, or_false, false_or, not_false_eq_true, c87, eq_true hx, w1, w2, k1, v1, v2, hs1.2.1.1, hs1.2.1.2.1, hs1.2.1.2.2, hs1.2.2.1.1, hs1.2.2.1.2.1, hs1.2.2.1.2.2.1, hs1.2.2.1.2.2.2.1, hs1.2.2.1.2.2.2.2.1, hs1.2.2.1.2.2.2.2.2.1, hs1.2.2.1.2.2.2.2.2.2.1, hs1.2.2.1.2.2.2.2.2.2.2.1, hs1.2.2.1.2.2.2.2.2.2.2.2, hs1.2.2.2.1.1, hs1.2.2.2.1.2.1, hs1.2.2.2.1.2.2.1, hs1.2.2.2.1.2.2.2, hs1.2.2.2.2.1.1, hs1.2.2.2.2.1.2.1, hs1.2.2.2.2.1.2.2, hs1.2.2.2.2.2.1.1, hs1.2.2.2.2.2.1.2.1, hs1.2.2.2.2.2.1.2.2.1, hs1.2.2.2.2.2.1.2.2.2.1, hs1.2.2.2.2.2.1.2.2.2.2.1, hs1.2.2.2.2.2.1.2.2.2.2.2.1, hs1.2.2.2.2.2.1.2.2.2.2.2.2, hs1.2.2.2.2.2.2.1.1, hs1.2.2.2.2.2.2.1.2.1, hs1.2.2.2.2.2.2.1.2.2.1, hs1.2.2.2.2.2.2.1.2.2.2, hs1.2.2.2.2.2.2.2.1, hs1.2.2.2.2.2.2.2.2.1, hs1.2.2.2.2.2.2.2.2.2, le8 hs1.1, ez, r35, g52_4, g52_8, g52_18, g52_25]
  · obtain ⟨⟨b1, b2, b3, b4⟩, hB⟩ := kI
    refine ⟨n, Rl_U hR2 (fun k _ => us_c2 h60 _ _ (fun i h1 h2 => up_n (by omega))), Fl_cg kF (fun u h1 h2 => rX_n (by omega)) (fun i h1 h2 => up_n (by omega)), ⟨fun i hi => ?_, fun i j hi hj e => ?_, ⟨_, g1, up_s _ _ _⟩, fun k hk => ?_⟩, IB_cg h60 hB (fun i h1 h2 => up_n (by omega))⟩
    · rw [up_n (by omega), up_n (by omega), up_n (by omega)]
      exact b1 i hi
    · rw [up_n (by omega), up_n (by omega)] at e
      exact b2 i j hi hj e
    · rw [up_n (by omega), up_n (by omega)]
      exact b4 k hk
theorem o53 (h : RW τ f H c g) (hn : f 4 = nQ n) (h60 : n ≤ 60) {z : Nat} (hz1 : 1 ≤ z) (hz2 : z ≤ 100) (hy : ¬ nQ 10000 < f 0 + nQ z) : OpR τ 53 [.int (nQ z)] (nQ (dyC f z)) (dyR f z) g (hpF H c f) (csN c) := by
  obtain ⟨hR, hF, hI⟩ := RV_n h.1 hn h60
  have w1 : tkM τ 8 = (1, 4) := h.1.1.1.1.1
  have w2 : prM τ 8 0 = 9 := h.1.1.1.1.2.1
  have hs : ShS τ 9 := h.1.1.1.2.1.1
  have hx : inP (nQ z) (nQ 1) (nQ 100) := ⟨by rw [nQ_lt (by omega) (by omega)]; omega, by rw [nQ_lt (by omega) (by omega)]; omega⟩
  have r32 := c32 (d := rw_ τ 9) hs hR (nQ z)
  rw [sB_rw, if_neg hy] at r32
  obtain ⟨τ1, hK⟩ := Kp_ex h.1
  obtain ⟨⟨kR, kF, kI⟩, krow⟩ := Kp_n h.1 hK hn h60
  have v1 : tkM τ1 8 = (1, 4) := hK.2.1.1.1
  have v2 : prM τ1 8 0 = 9 := hK.2.1.1.2.1
  have hs1 : ShS τ1 9 := hK.2.1.2.1.1
  have k1 := Kp_w hK
  obtain ⟨d', y1, y2, y3⟩ := c33 hs1 kR hz2
  refine Op_of h hK ?_ ⟨n, Rl_U y2 (fun k _ => us_c2 h60 _ _ (fun i h1 h2 => dy_lo _ (by omega) (by omega) z)), Fl_cg kF y3 (fun i h1 h2 => dy_lo _ (by omega) (by omega) z), IA_cg h60 kI.1 (fun i h1 h2 => dy_lo _ (by omega) (by omega) z), IB_cg h60 kI.2 (fun i h1 h2 => dy_lo _ (by omega) (by omega) z)⟩
  refine (g53_0).trans ?_
  simp (disch := omega) only [cn_l, Option.toList, List.cons_append, List.nil_append, if_true, if_false, tk_sB, pr_sB, hx.1, hx.2, q10, w1, w2, hs.2.1.1, hs.2.1.2.1, hs.2.1.2.2, hs.2.2.1.1, hs.2.2.1.2.1, hs.2.2.1.2.2.1, hs.2.2.1.2.2.2.1, hs.2.2.1.2.2.2.2.1, hs.2.2.1.2.2.2.2.2.1, hs.2.2.1.2.2.2.2.2.2.1, hs.2.2.1.2.2.2.2.2.2.2.1, hs.2.2.1.2.2.2.2.2.2.2.2, hs.2.2.2.1.1, hs.2.2.2.1.2.1, hs.2.2.2.1.2.2.1, hs.2.2.2.1.2.2.2, hs.2.2.2.2.1.1, hs.2.2.2.2.1.2.1, hs.2.2.2.2.1.2.2, hs.2.2.2.2.2.1.1, hs.2.2.2.2.2.1.2.1, hs.2.2.2.2.2.1.2.2.1, hs.2.2.2.2.2.1.2.2.2.1, hs.2.2.2.2.2.1.2.2.2.2.1, hs.2.2.2.2.2.1.2.2.2.2.2.1, hs.2.2.2.2.2.1.2.2.2.2.2.2, hs.2.2.2.2.2.2.1.1, hs.2.2.2.2.2.2.1.2.1, hs.2.2.2.2.2.2.1.2.2.1, hs.2.2.2.2.2.2.1.2.2.2, hs.2.2.2.2.2.2.2.1, hs.2.2.2.2.2.2.2.2.1, hs.2.2.2.2.2.2.2.2.2, le8 hs.1, r32, k1, v1, v2, hs1.2.1.1, y1, g53_29, g53_46, g53_54]
theorem o58 (h : RW τ f H (c + 1) g) : ∃ τ', DoM 58 [.ref 8] τ = some (.inl (some (.int (nQ c))), τ') ∧ RW τ' (H c) H c g ∧ FrW τ τ' := by
  have w1 : tkM τ 8 = (1, 4) := h.1.1.1.1.1
  have w2 : prM τ 8 0 = 9 := h.1.1.1.1.2.1
  have hs : ShS τ 9 := h.1.1.1.2.1.1
  obtain ⟨⟨⟨hW, h186⟩, h6, h0, hc, π, hP, hsv⟩, hl⟩ := id h
  obtain ⟨p1, p2⟩ := hP.1 c (by omega)
  have w3 : prM τ 8 2 = 43 := hW.1.2.2.2.1
  have w4 : tkM τ 43 = (6, 6) := hW.2.2.1
  obtain ⟨d', y1, y2⟩ := c15 (σ := wrM τ 8 3 (nQ c)) (b := 9) (a := 44 + 17 * π c) (d := rw_ (wrM τ 8 3 (nQ c)) 9) hs (hW.2.1.2.2.1 (π c) p2) (by omega) (fun u hu => by
    rw [rdf_wr (by omega)]
    exact RS_bool (hsv c (by omega)) u hu)
  rw [sB_rw] at y1
  have ro : ∀ v, ¬ (9 ≤ v ∧ v < 9 + 17) → ¬ v = 8 → rdM (sB 17 (wrM τ 8 3 (nQ c)) 9 d') v = rdM τ v := fun v h1 h2 => by
    rw [rdf_out h1, rdf_wr h2]
  refine ⟨sB 17 (wrM τ 8 3 (nQ c)) 9 d', ?_, ⟨⟨⟨hW, h186⟩, by omega, ?_, ?_, π, hP, fun i hi => ?_⟩, Sl_cg hl fun v h1 h2 => ro v (by omega) (by omega)⟩, rfl, rfl, fun v hv => ro v (by omega) (by omega)⟩
  · have z1 : rdM (wrM τ 8 3 (nQ c)) 8 3 = nQ c := rd_wr_s _ _ _ _
    have z2 : rdM (sB 17 (wrM τ 8 3 (nQ c)) 9 d') 8 3 = nQ c := (rd_out (by omega) 3).trans z1
    have z3 : nQ 0 < nQ (c + 1) := by rw [nQ_lt (by decide) (by omega)]; omega
    refine (g58_0).trans ?_
    simp (disch := omega) only [cn_l, Option.toList, List.cons_append, List.nil_append, if_true, if_false, tk_sB, pr_sB, aOk, nQ_nat, nQ_neg, nQ_add, nQ_mul, leF, rd_sB, rd_sB0, wr_sB, wr_sB0, true_and, and_true, or_false, false_or, not_false_eq_true, tk_wr, pr_wr, w1, w2, w3, w4, hs.2.1.1, p1, hc, z1, z2, z3, nQ_sub, Nat.add_sub_cancel, y1, g58_27, g58_43]
  · refine RS_d (RS_eq (hsv c (by omega)) (EqS_s y2 (fun u hu => ?_))) (fun u hu => rdf_in hu)
    funext i
    show rdM τ (44 + 17 * π c + u) i = rdM (wrM τ 8 3 (nQ c)) (44 + 17 * π c + u) i
    rw [rdf_wr (by omega)]
  · rw [rdf_out (by omega)]
    exact rd_wr_s _ _ _ _
  · have := (hP.1 i (by omega)).2
    exact RS_d (hsv i (by omega)) (rw_cg (fun v h1 h2 => ro v (by omega) (by omega)))
theorem o59 (h : RV τ f H c) : ∃ τ', DoM 59 [.ref 8, .int (nQ 0)] τ = some (.inl (some (.int (f 0))), τ') ∧ RW τ' f H c f ∧ FrW τ τ' := by
  have w1 : tkM τ 8 = (1, 4) := h.1.1.1.1
  have w2 : prM τ 8 0 = 9 := h.1.1.1.2.1
  have hs : ShS τ 9 := h.1.1.2.1.1
  obtain ⟨⟨hW, h186⟩, h6, h0, hc, π, hP, hsv⟩ := id h
  have hx : inP (nQ 0) (nQ 0) (nQ 1) := in_Q (by decide) (by decide)
  obtain ⟨p1, p2⟩ := hW.2.1.2.2.2 0 (by decide)
  have w3 : prM τ 8 4 = 146 := hW.1.2.2.2.2.1
  have w4 : tkM τ 146 = (6, 2) := hW.2.2.2.1
  have w5 : prM τ 8 5 = 181 := hW.1.2.2.2.2.2.1
  have w6 : tkM τ 181 = (3, 2) := hW.2.2.2.2.1
  obtain ⟨d', y1, y2⟩ := c15 (σ := τ) (b := 147 + 17 * 0) (a := 9) (d := rw_ τ (147 + 17 * 0)) p2 hs (by omega) (RS_bool h0)
  rw [sB_rw] at y1
  have e0 : rdM τ 9 0 = f 0 := by
    obtain ⟨n', a1, _⟩ := h0
    exact a1.1.1
  have ro : ∀ v, ¬ v = 181 → ¬ (147 + 17 * 0 ≤ v ∧ v < 147 + 17 * 0 + 17) → rdM (wrM (sB 17 τ (147 + 17 * 0) d') 181 0 (nQ 1)) v = rdM τ v := fun v h1 h2 => by
    rw [rdf_wr h1, rdf_out h2]
  refine ⟨wrM (sB 17 τ (147 + 17 * 0) d') 181 0 (nQ 1), ?_, ⟨⟨⟨hW, h186⟩, h6, RS_d h0 (rw_cg fun v _ _ => ro v (by omega) (by omega)), ?_, π, hP, fun i hi => ?_⟩, rd_wr_s _ _ _ _, ?_⟩, rfl, rfl, fun v hv => ro v (by omega) (by omega)⟩
  · have z1 : rdM (wrM (sB 17 τ (147 + 17 * 0) d') 181 0 (nQ 1)) 9 0 = f 0 := by
      rw [ro 9 (by decide) (by decide), e0]
    have z2 : nQ 1 &&& nQ 1 = nQ 1 := by decide
    refine (g59_0).trans ?_
    simp (disch := omega) only [cn_l, Option.toList, List.cons_append, List.nil_append, if_true, if_false, tk_sB, pr_sB, aOk, nQ_nat, nQ_neg, nQ_add, nQ_mul, leF, rd_sB, rd_sB0, wr_sB, wr_sB0, true_and, and_true, or_false, false_or, not_false_eq_true, c96, eq_true hx, tk_wr, pr_wr, w1, w2, w3, w4, w5, w6, hs.2.1.1, p1, p2.2.1.1, z2, y1, z1, g59_4, g59_17, g59_24]
  · rw [ro 8 (by decide) (by decide)]
    exact hc
  · have := (hP.1 i (by omega)).2
    exact RS_d (hsv i hi) (rw_cg (fun v h1 h2 => ro v (by omega) (by omega)))
  · refine RS_d (RS_eq h0 y2) (fun u hu => ?_)
    show rdM (wrM (sB 17 τ (147 + 17 * 0) d') 181 0 (nQ 1)) (147 + 17 * 0 + u) = d' u
    rw [rdf_wr (by omega), rdf_in hu]
theorem o60 (h : RW τ f H c g) : OpR τ 60 [.int (nQ 0)] (g 0) g g (hpF H c f) (csN c) := by
  have w1 : tkM τ 8 = (1, 4) := h.1.1.1.1.1
  have w2 : prM τ 8 0 = 9 := h.1.1.1.1.2.1
  have w5 : prM τ 8 5 = 181 := h.1.1.1.1.2.2.2.2.2.1
  have w6 : tkM τ 181 = (3, 2) := h.1.1.1.2.2.2.2.1
  have hx : inP (nQ 0) (nQ 0) (nQ 1) := in_Q (by decide) (by decide)
  have g1 := h.2.1
  obtain ⟨τ1, hK⟩ := Kp_ex h.1
  have v1 : tkM τ1 8 = (1, 4) := hK.2.1.1.1
  have v2 : prM τ1 8 0 = 9 := hK.2.1.1.2.1
  have hs1 : ShS τ1 9 := hK.2.1.2.1.1
  have k1 := Kp_w hK
  obtain ⟨p1, p2⟩ := hK.2.1.2.1.2.2.2 0 (by decide)
  have v3 : prM τ1 8 4 = 146 := hK.2.1.1.2.2.2.2.1
  have v4 : tkM τ1 146 = (6, 2) := hK.2.1.2.2.2.1
  have hrow : ∀ u, u < 17 → rw_ τ1 (147 + 17 * 0) u = rw_ τ (147 + 17 * 0) u := rw_cg (fun v h1 h2 => hK.2.2.2.1 v (by omega))
  have g4 : RlS (rw_ τ1 (147 + 17 * 0)) g := RS_d h.2.2 hrow
  obtain ⟨d', y1, y2⟩ := c15 (σ := τ1) (b := 9) (a := 147 + 17 * 0) (d := rw_ τ1 9) hs1 p2 (by omega) (RS_bool g4)
  have g5 := RS_eq g4 y2
  have e0 : d' 0 0 = g 0 := by
    obtain ⟨n2, q1, _⟩ := g5
    exact q1.1.1
  refine Op_of h hK ?_ g5
  refine (g60_0).trans ?_
  rw [← e0]
  simp (disch := omega) only [cn_l, Option.toList, List.cons_append, List.nil_append, if_true, if_false, tk_sB, pr_sB, aOk, nQ_nat, nQ_neg, nQ_add, nQ_mul, leF, rd_sB, rd_sB0, wr_sB, wr_sB0, true_and, and_true, or_false, false_or, not_false_eq_true, c96, eq_true hx, w1, w2, w5, w6, g1, q10, k1, v1, v2, v3, v4, hs1.2.1.1, hs1.2.1.2.1, hs1.2.1.2.2, hs1.2.2.1.1, hs1.2.2.1.2.1, hs1.2.2.1.2.2.1, hs1.2.2.1.2.2.2.1, hs1.2.2.1.2.2.2.2.1, hs1.2.2.1.2.2.2.2.2.1, hs1.2.2.1.2.2.2.2.2.2.1, hs1.2.2.1.2.2.2.2.2.2.2.1, hs1.2.2.1.2.2.2.2.2.2.2.2, hs1.2.2.2.1.1, hs1.2.2.2.1.2.1, hs1.2.2.2.1.2.2.1, hs1.2.2.2.1.2.2.2, hs1.2.2.2.2.1.1, hs1.2.2.2.2.1.2.1, hs1.2.2.2.2.1.2.2, hs1.2.2.2.2.2.1.1, hs1.2.2.2.2.2.1.2.1, hs1.2.2.2.2.2.1.2.2.1, hs1.2.2.2.2.2.1.2.2.2.1, hs1.2.2.2.2.2.1.2.2.2.2.1, hs1.2.2.2.2.2.1.2.2.2.2.2.1, hs1.2.2.2.2.2.1.2.2.2.2.2.2, hs1.2.2.2.2.2.2.1.1, hs1.2.2.2.2.2.2.1.2.1, hs1.2.2.2.2.2.2.1.2.2.1, hs1.2.2.2.2.2.2.1.2.2.2, hs1.2.2.2.2.2.2.2.1, hs1.2.2.2.2.2.2.2.2.1, hs1.2.2.2.2.2.2.2.2.2, le8 hs1.1, p1, y1, g60_4, g60_27, g60_40]
end Ob
