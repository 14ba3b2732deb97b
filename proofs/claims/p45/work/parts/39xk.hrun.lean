/-! Whether all holds of a state: its run, continued. -/
def LhI (τ : Mem) (f g : Nat → Int32) (H : Nat → Nat → Int32) (c n p a : Nat) (σ : Mem) : Prop := (RW σ f H c g ∧ 186 ≤ p) ∧ tkM σ p = (2, 4) ∧ Fr8 τ σ ∧ ∀ q, q < 4 → rdM σ p q = sqF f n q a
theorem us_p {f : Nat → Int32} {a : Nat} : ∀ n, ∃ U, U ≤ n ∧ usF f (nQ a) 1 n = nQ U ∧ ∀ j, j < n → (f (5 + 4 * j + 1) = nQ a ∨ nQ 6 + f (5 + 4 * j + 2) = nQ a) → 0 < U
  | 0 => ⟨0, Nat.le_refl 0, rfl, fun j hj => absurd hj (Nat.not_lt_zero j)⟩
  | n + 1 => by
    obtain ⟨U, h1, h2, h3⟩ := us_p (f := f) (a := a) n
    rw [usF_s, h2]
    by_cases c : f (5 + 4 * n + 1) = nQ a ∨ nQ 6 + f (5 + 4 * n + 2) = nQ a
    · refine ⟨U + 1, by omega, ?_, fun _ _ _ => Nat.succ_pos U⟩
      rw [if_pos c, if_neg (by decide), nQ_add]
    · refine ⟨U, by omega, ?_, fun j hj hc => ?_⟩
      · rw [if_neg c, z0R]
      · by_cases e : j = n
        · rw [e] at hc
          exact absurd hc c
        · exact h3 j (by omega) hc
section Hr
variable {τ σ : Mem} {f g : Nat → Int32} {H : Nat → Nat → Int32} {c n p T : Nat}
theorem m1_lt : ((-1 : Int32) < nQ 0) = True := eq_true (by decide)
theorem m1_0 : ((-1 : Int32) = nQ 0) = False := eq_false (by decide)
theorem ho_end (hI : InvF f n) (hG : GX f n T) {o7 o8 o9 o10 o11 o12 : Option Value} (h : LhI τ f g H c n p 9 σ) : RuM 111 (445, [some (.ref 8), some (.int (nQ (gcN f false 18))), some (.int (nQ (gcN f true 18))), some (.int (nQ 1)), some (.ref p), some (.int (nQ 0)), some (.int (nQ 0)), o7, o8, o9, o10, o11, o12], [], 1, 4) σ = some (.inl (some (.int (nQ 1))), σ) := by
  have hn := hG.2.1
  have h60 := hG.2.2
  obtain ⟨⟨a1, a2⟩, a3, -, a5⟩ := h
  have w1 : tkM σ 8 = (1, 4) := a1.1.1.1.1.1
  obtain ⟨s0, s1, s2, s3⟩ := sq_e hI.1
  have d1 := a5 0 (by decide)
  have d2 := a5 1 (by decide)
  have d3 := a5 2 (by decide)
  have d4 := a5 3 (by decide)
  rw [s0] at d1
  rw [s1] at d2
  rw [s2] at d3
  rw [s3] at d4
  have td := tt_d hG.1.2.1
  have t1 := tt_1 f n
  have Lp : ∀ (m i : Nat), i + m = 10 → RuM 111 (445, [some (.ref 8), some (.int (nQ (gcN f false 18))), some (.int (nQ (gcN f true 18))), some (.int (nQ 1)), some (.ref p), some (.int (sS (fun a => dzF f (nQ a) n) i)), some (.int (nQ i)), o7, o8, o9, o10, o11, o12], [], 1, 4) σ = some (.inl (some (.int (nQ 1))), σ) := by
    intro m
    induction m with
    | zero =>
      intro i e
      obtain rfl : i = 10 := e
      have q1 := q81 a1.1 hn h60
      have q2 := q82 a1.1 hn h60
      have q3 := q73 a1.1 hn h60
      rw [hn] at q3
      rw [td, g111_445]
      simp (disch := omega) only [aOk, a3, leF, nQ_nat, nQ_neg, nQ_lt, Nat.lt_irrefl, q10, w1, q1, q2, q3, cn_l, Option.toList, List.cons_append, List.nil_append, if_true, if_false, true_and, and_true, or_false, false_or, not_false_eq_true, g111_478, g111_486, g111_519, g111_536, d1, d2, d3, d4, t1, zb_1]
    | succ m ih =>
      intro i e
      have hi : i < 10 := by omega
      have q := q74 a1.1 hn h60 (a := i) (by omega)
      rw [← ih (i + 1) (by omega), g111_445]
      simp (disch := omega) only [nQ_lt, hi, w1, q, cn_l, Option.toList, List.cons_append, List.nil_append, if_true, nQ_add, g111_460]
      rfl
  exact Lp 10 0 rfl
theorem Lh_wr {a j : Nat} {x : Int32} (h : LhI τ f g H c n p a σ) : (RW (wrM σ p j x) f H c g ∧ 186 ≤ p) ∧ tkM (wrM σ p j x) p = (2, 4) ∧ Fr8 τ (wrM σ p j x) := by
  obtain ⟨⟨a1, a2⟩, a3, a4, a5⟩ := h
  exact ⟨⟨RW_wr a1 a2, a2⟩, a3, fun v hv => ⟨(a4 v hv).1, (congrFun (rdf_wr (σ := σ) (v := v) (w := p) (j := j) (x := x) (by omega)) ·) |> funext |>.trans (a4 v hv).2⟩⟩
theorem RW_sB {d : Nat → Nat → Int32} (h : RW τ f H c g) : RW (sB 1 τ 185 d) f H c g := RW_cg h (fun _ _ => rfl) (fun _ _ => rfl) (fun v _ h2 => rdf_out (by omega)) (Nat.le_refl _)
theorem ho_acc (hI : InvF f n) (hG : GX f n T) (hT : T < 100000) {o8 o9 o10 o11 o12 : Option Value} : ∀ (m a : Nat) (σ : Mem) (o7 : Option Value), a + m = 9 → LhI τ f g H c n p a σ → ∃ σ', (RW σ' f H c g ∧ Fr8 τ σ') ∧ RuM 111 (310, [some (.ref 8), some (.int (nQ (gcN f false 18))), some (.int (nQ (gcN f true 18))), some (.int (nQ 1)), some (.ref p), some (.int (nQ 0)), some (.int (nQ a)), o7, o8, o9, o10, o11, o12], [], 1, 4) σ = some (.inl (some (.int (nQ 1))), σ') := by
  have hn := hG.2.1
  have h60 := hG.2.2
  intro m
  induction m with
  | zero =>
    intro a σ o7 e h
    obtain rfl : a = 9 := e
    refine ⟨σ, ⟨h.1.1, h.2.2.1⟩, ?_⟩
    rw [g111_310]
    simp (disch := omega) only [nQ_lt, Nat.lt_irrefl, if_false]
    exact ho_end hI hG h
  | succ m ih =>
    intro a σ o7 e h
    have ha : a < 9 := by omega
    obtain ⟨⟨a1, a2⟩, a3, a4, a5⟩ := h
    have hp8 : 8 ≤ p := by omega
    -- the two sums
    have ht0 : tqN a 0 < 4 := by unfold tqN; split <;> omega
    have ht1 : tqN a 1 < 4 := by unfold tqN; split <;> omega
    have hne : ¬ tqN a 1 = tqN a 0 := by unfold tqN; split <;> omega
    have r1 : RW (wrM σ p (tqN a 0) (rdM σ p (tqN a 0) + usF f (nQ a) 0 n)) f H c g := RW_wr a1 a2
    have r2 : RW (wrM (wrM σ p (tqN a 0) (rdM σ p (tqN a 0) + usF f (nQ a) 0 n)) p (tqN a 1) (rdM σ p (tqN a 1) + usF f (nQ a) 1 n)) f H c g := RW_wr r1 a2
    obtain ⟨k, D, f1, f2, f3⟩ := q69 r2.1 hn h60 (a := a) (by omega)
    obtain ⟨k5, l1, l2⟩ := q75 (RW_sB (d := D) r2).1 hn h60 (a := a) (by omega)
    have u0 := q61 a1.1 hn h60 (a := a) (r := 0) (by omega) (by decide)
    have u1 := q61 r1.1 hn h60 (a := a) (r := 1) (by omega) (by decide)
    have u1' := q61 (RW_sB (d := D) r2).1 hn h60 (a := a) (r := 1) (by omega) (by decide)
    have st := q65 (RW_sB (d := D) r2).1 hn h60 (a := a) (r := 0) (by omega) (by decide)
    have e1 : rdM (wrM σ p (tqN a 0) (rdM σ p (tqN a 0) + usF f (nQ a) 0 n)) p (tqN a 1) = rdM σ p (tqN a 1) := by rw [rd_wr1, if_neg hne]
    have h' : LhI τ f g H c n p (a + 1) (sB 1 (wrM (wrM σ p (tqN a 0) (rdM σ p (tqN a 0) + usF f (nQ a) 0 n)) p (tqN a 1) (rdM σ p (tqN a 1) + usF f (nQ a) 1 n)) 185 D) := by
      refine ⟨⟨RW_sB r2, a2⟩, a3, fun v hv => ⟨(a4 v hv).1, ?_⟩, fun q hq => ?_⟩
      · rw [rdf_out (by omega), rdf_wr (by omega), rdf_wr (by omega)]
        exact (a4 v hv).2
      · rw [rd_out (by omega), rd_wr1, rd_wr1, sq_s, a5 q hq, a5 _ ht0, a5 _ ht1]
        by_cases c0 : q = tqN a 0
        · rw [if_neg (by omega), if_pos c0, if_pos c0, c0]
        · rw [if_neg c0, if_neg c0]
          by_cases c1 : q = tqN a 1
          · rw [if_pos c1, if_pos c1, c1]
          · rw [if_neg c1, if_neg c1, z0R]
    obtain ⟨σ', x1, x2⟩ := ih (a + 1) _ (some (.int (nQ 2))) (by omega) h'
    refine ⟨σ', x1, ?_⟩
    rw [← x2]
    clear x1 x2 ih h'
    have w1 : tkM σ 8 = (1, 4) := a1.1.1.1.1.1
    -- fewest, and the grace period
    have ek : (nQ k = nQ 0) = (k = 0) := nQ_eq (by omega) (by decide)
    obtain ⟨⟨⟨t, ht, hY⟩, hK, hC, hL⟩, -⟩ := id hG
    have hC0 := hC (2 * a) (by omega)
    have hB0 := hI.2 (2 * a) (by omega)
    rw [show 2 * a / 2 = a by omega, show 2 * a - a * 2 = 0 by omega] at hC0 hB0
    have hst : (k = 0) = (f (281 + 2 * a + 0) < nQ 0) := by
      refine propext (f3.trans ?_)
      rw [show 281 + 2 * a + 0 = 281 + 2 * a by omega]
      rcases hY.2 (2 * a) (by omega) with es | ⟨s, hs, es⟩
      · rw [es, m1_lt]
        exact ⟨fun _ => trivial, fun _ z => hC0 z es⟩
      · have := hB0 (by rw [es]; exact nQ_m1' (by omega))
        rw [es, nQ_lt (by omega) (by decide)]
        exact ⟨fun z => absurd this z, fun z => absurd z (Nat.not_lt_zero _)⟩
    -- largest, and the files
    have hlg : (k5 < nQ 0) = (usF f (nQ a) 1 n = nQ 0) := by
      rcases l2 with ⟨rfl, hno⟩ | ⟨j, hj, hc, rfl⟩
      · rw [m1_lt, us_0 n hno]
        exact (eq_true rfl).symm
      · obtain ⟨v, w, hv, hw, ej⟩ := hK j hj
        rw [ej, nQ_lt (by omega) (by decide)]
        refine propext ⟨fun z => absurd z (Nat.not_lt_zero _), fun z => ?_⟩
        obtain ⟨U, p1, p2, p3⟩ := us_p (f := f) (a := a) n
        rw [p2, nQ_eq (by omega) (by decide)] at z
        exact absurd z (Nat.pos_iff_ne_zero.mp (p3 j hj hc))
    -- the run
    have n01 : (nQ 1 = nQ 0) = False := q10
    have ht0' : tqN a 0 < 2147483648 := by omega
    have ht1' : tqN a 1 < 2147483648 := by omega
    have U0 : RuM 111 (320, [some (.ref 8), some (.int (nQ (gcN f false 18))), some (.int (nQ (gcN f true 18))), some (.int (nQ 1)), some (.ref p), some (.int (nQ 0)), some (.int (nQ a)), some (.int (nQ 0)), o8, o9, o10, o11, o12], [], 1, 4) σ = RuM 111 (344, [some (.ref 8), some (.int (nQ (gcN f false 18))), some (.int (nQ (gcN f true 18))), some (.int (nQ 1)), some (.ref p), some (.int (nQ 0)), some (.int (nQ a)), some (.int (nQ 0)), o8, o9, o10, o11, o12], [.int (nQ (tqN a 0)), .ref p], 1, 4) σ := by
      rw [g111_320]
      unfold tqN
      rcases Classical.propComplete (a < 6) with c6 | c6 <;> simp (disch := omega) only [nQ_lt, c6, if_true, if_false, nQ_add, Nat.reduceLT]
    have U1 : ∀ σ, RuM 111 (320, [some (.ref 8), some (.int (nQ (gcN f false 18))), some (.int (nQ (gcN f true 18))), some (.int (nQ 1)), some (.ref p), some (.int (nQ 0)), some (.int (nQ a)), some (.int (nQ 1)), o8, o9, o10, o11, o12], [], 1, 4) σ = RuM 111 (344, [some (.ref 8), some (.int (nQ (gcN f false 18))), some (.int (nQ (gcN f true 18))), some (.int (nQ 1)), some (.ref p), some (.int (nQ 0)), some (.int (nQ a)), some (.int (nQ 1)), o8, o9, o10, o11, o12], [.int (nQ (tqN a 1)), .ref p], 1, 4) σ := by
      intro σ
      rw [g111_320]
      unfold tqN
      rcases Classical.propComplete (a < 6) with c6 | c6 <;> simp (disch := omega) only [nQ_lt, c6, if_true, if_false, nQ_add, Nat.reduceLT]
    have V0 : RuM 111 (310, [some (.ref 8), some (.int (nQ (gcN f false 18))), some (.int (nQ (gcN f true 18))), some (.int (nQ 1)), some (.ref p), some (.int (nQ 0)), some (.int (nQ a)), o7, o8, o9, o10, o11, o12], [], 1, 4) σ = RuM 111 (320, [some (.ref 8), some (.int (nQ (gcN f false 18))), some (.int (nQ (gcN f true 18))), some (.int (nQ 1)), some (.ref p), some (.int (nQ 0)), some (.int (nQ a)), some (.int (nQ 1)), o8, o9, o10, o11, o12], [], 1, 4) (wrM σ p (tqN a 0) (rdM σ p (tqN a 0) + usF f (nQ a) 0 n)) := by
      have hlt : nQ a < nQ 9 := by rw [nQ_lt (by omega) (by decide)]; exact ha
      rw [g111_310, if_pos hlt, U0, g111_344]
      simp (disch := omega) only [aOk, a3, leF, nQ_nat, nQ_neg, w1, u0, hp8, ht0, cn_l, Option.toList, List.cons_append, List.nil_append, if_true, true_and, and_true, or_false, false_or, not_false_eq_true, nQ_add, g111_354, g111_356]
    have V1 : RuM 111 (320, [some (.ref 8), some (.int (nQ (gcN f false 18))), some (.int (nQ (gcN f true 18))), some (.int (nQ 1)), some (.ref p), some (.int (nQ 0)), some (.int (nQ a)), some (.int (nQ 1)), o8, o9, o10, o11, o12], [], 1, 4) (wrM σ p (tqN a 0) (rdM σ p (tqN a 0) + usF f (nQ a) 0 n)) = RuM 111 (320, [some (.ref 8), some (.int (nQ (gcN f false 18))), some (.int (nQ (gcN f true 18))), some (.int (nQ 1)), some (.ref p), some (.int (nQ 0)), some (.int (nQ a)), some (.int (nQ 2)), o8, o9, o10, o11, o12], [], 1, 4) (wrM (wrM σ p (tqN a 0) (rdM σ p (tqN a 0) + usF f (nQ a) 0 n)) p (tqN a 1) (rdM σ p (tqN a 1) + usF f (nQ a) 1 n)) := by
      rw [U1, g111_344]
      simp (disch := omega) only [aOk, tk_wr, a3, leF, nQ_nat, nQ_neg, w1, u1, e1, hp8, ht1, cn_l, Option.toList, List.cons_append, List.nil_append, if_true, true_and, and_true, or_false, false_or, not_false_eq_true, nQ_add, g111_354, g111_356]
    rw [V0, V1, g111_320]
    generalize wrM (wrM σ p (tqN a 0) (rdM σ p (tqN a 0) + usF f (nQ a) 0 n)) p (tqN a 1) (rdM σ p (tqN a 1) + usF f (nQ a) 1 n) = σ2 at *
    have w2 : tkM σ2 8 = (1, 4) := r2.1.1.1.1.1
    have w3 : tkM (sB 1 σ2 185 D) 8 = (1, 4) := w2
    rcases Classical.propComplete (f (281 + 2 * a + 0) < nQ 0) with c1 | c1 <;> rcases Classical.propComplete (usF f (nQ a) 1 n = nQ 0) with c2 | c2 <;> simp (disch := omega) only [nQ_lt, Nat.lt_irrefl, n01, w2, w3, f1, l1, st, u1', ek, hst, hlg, c1, c2, cn_l, Option.toList, List.cons_append, List.nil_append, if_true, if_false, nQ_add, g111_372, g111_380, g111_387, g111_395, g111_404, g111_412, g111_419, g111_427, g111_435]
theorem ho_turn (hI : InvF f n) (hG : GX f n T) (hT : T < 100000) (h : RW τ f H c g) {i : Nat} (hi : i < 18) (o5 o6 o7 o8 o9 o10 o11 o12 : Option Value) : ∃ left over, RuM 111 (9, [some (.ref 8), some (.int (nQ (gcN f false i))), some (.int (nQ (gcN f true i))), some (.int (nQ 1)), some (.int (nQ i)), o5, o6, o7, o8, o9, o10, o11, o12], [], 0, 0) τ = RuM 111 (9, [some (.ref 8), some (.int (nQ (gcN f false (i + 1)))), some (.int (nQ (gcN f true (i + 1)))), some (.int (nQ 1)), some (.int (nQ (i + 1))), some (.int (nQ (i / 2))), some (.int (nQ (i - i / 2 * 2))), some (.int (usF f (nQ (i / 2)) (i - i / 2 * 2) n)), some (.int (f (245 + i))), some (.int (f (281 + i))), some (.int left), some (.int over), some (.int (f (263 + i) - usF f (nQ (i / 2)) (i - i / 2 * 2) n))], [], 0, 0) τ := by
  have hn := hG.2.1
  have h60 := hG.2.2
  have w1 : tkM τ 8 = (1, 4) := h.1.1.1.1.1
  have k1 := k61 h.1 hn h60 hi
  have k2 := k62 h.1 hn h60 hi
  have k3 := k63 h.1 hn h60 hi
  have k4 := k64 h.1 hn h60 hi
  have k5 := k65 h.1 hn h60 hi
  have k6 := k66 h.1 hn h60 hi
  have k7 := k67 h.1 hn h60 hi
  have k8 := q78 h.1 hn h60
  have k9 := q79 h.1 hn h60 (a := i - i / 2 * 2) (by omega)
  obtain ⟨⟨⟨t, ht, hY⟩, hK, hC, hL⟩, -⟩ := id hG
  obtain ⟨z, hz1, hz2, ez⟩ := hL (i - i / 2 * 2) (by omega)
  have hCi := hC i hi
  have hBi := hI.2 i hi
  have e0 := hY.1
  have xk : 2 * (i / 2) + (i - i / 2 * 2) = i := by omega
  have av : avF f n (i / 2) (i - i / 2 * 2) = if ovF f (f (281 + i)) (f 0) (i - i / 2 * 2) then nQ 0 else if f (263 + i) = nQ 0 then -2 else if f (263 + i) - usF f (nQ (i / 2)) (i - i / 2 * 2) n < nQ 0 then nQ 0 else f (263 + i) - usF f (nQ (i / 2)) (i - i / 2 * 2) n := by
    unfold avF
    rw [xk]
  have gF : gcN f false (i + 1) = gcN f false i + if ¬ f (281 + i) = -1 then 1 else 0 := gc_s f false i
  have gT : gcN f true (i + 1) = gcN f true i + if ovF f (f (281 + i)) (f 0) (i - i / 2 * 2) then 1 else 0 := gc_s f true i
  have n01 : (nQ 1 = nQ 0) = False := q10
  rcases hY.2 i hi with es | ⟨s, hs, es⟩
  · -- none runs
    have gl := gl_m hi es
    rw [if_neg (fun z => z.1 es)] at av gT
    rw [if_neg (fun z => z es)] at gF
    have hso : (f (245 + i) = nQ 0) = True ∨ (f (245 + i) = nQ 0) = False ∧ (f (245 + i) < usF f (nQ (i / 2)) (i - i / 2 * 2) n) = False := by
      by_cases q : f (245 + i) = nQ 0
      · exact Or.inl (eq_true q)
      · exact Or.inr ⟨eq_false q, eq_false (fun z => hCi ⟨q, z⟩ es)⟩
    have d0 : (f 0 < -1) = False := by
      rw [e0]
      refine eq_false (fun z => ?_)
      rw [Int32.lt_iff_toInt_lt, nQ_int (by omega), show (-1 : Int32).toInt = -1 by decide] at z
      omega
    refine ⟨-1, nQ 0, ?_⟩
    rw [g111_9]
    rcases hso with p1 | ⟨p1, p2⟩
    · rcases Classical.propComplete (f (263 + i) = nQ 0) with c1 | c1 <;> rcases Classical.propComplete (f (263 + i) - usF f (nQ (i / 2)) (i - i / 2 * 2) n < nQ 0) with c2 | c2 <;> simp (disch := omega) only [↓reduceIte, nQ_lt, hi, w1, nQ_div, nQ_mul, nQ_sub, k1, k2, k3, k4, k5, k6, k7, k8, k9, av, gl, es, m1_lt, m1_0, eq_self, cn_l, Option.toList, List.cons_append, List.nil_append, if_true, if_false, nQ_add, gF, gT, Nat.add_zero, Nat.not_lt_zero, n01, p1, d0, c1, c2, g111_36, g111_46, g111_56, g111_66, g111_77, g111_86, g111_93, g111_94, g111_104, g111_123, g111_136, g111_152, g111_153, g111_162, g111_175, g111_191, g111_201, g111_209, g111_222, g111_239, g111_258, g111_266, g111_278, g111_291]
    · rcases Classical.propComplete (f (263 + i) = nQ 0) with c1 | c1 <;> rcases Classical.propComplete (f (263 + i) - usF f (nQ (i / 2)) (i - i / 2 * 2) n < nQ 0) with c2 | c2 <;> simp (disch := omega) only [↓reduceIte, nQ_lt, hi, w1, nQ_div, nQ_mul, nQ_sub, k1, k2, k3, k4, k5, k6, k7, k8, k9, av, gl, es, m1_lt, m1_0, eq_self, cn_l, Option.toList, List.cons_append, List.nil_append, if_true, if_false, nQ_add, gF, gT, Nat.add_zero, Nat.not_lt_zero, n01, p1, p2, d0, c1, c2, g111_36, g111_46, g111_56, g111_66, g111_77, g111_86, g111_93, g111_94, g111_104, g111_123, g111_136, g111_152, g111_153, g111_162, g111_175, g111_191, g111_201, g111_209, g111_222, g111_239, g111_258, g111_266, g111_278, g111_291]
  · have gl := gl_s hi hs (by omega) hz2 es e0 ez
    have hov := ov_s hs (by omega) hz2 e0 ez
    rw [← es] at hov
    obtain ⟨b1, b2⟩ := hBi (by rw [es]; exact nQ_m1' (by omega))
    have p1 : (f (245 + i) = nQ 0) = False := eq_false b1
    have p2 := eq_true b2
    rw [if_pos (by rw [es]; exact nQ_m1' (by omega))] at gF
    have hts : (t < s) = False := eq_false (by omega)
    by_cases co : t - s < z
    · rw [if_neg (fun q => by have := hov.mp q; omega)] at av gT
      have c3 : (nQ (z - (t - s)) = nQ 0) = False := by rw [nQ_eq (by omega) (by decide)]; exact eq_false (by omega)
      have co' := eq_true co
      refine ⟨nQ (z - (t - s)), nQ 0, ?_⟩
      rw [g111_9]
      rcases Classical.propComplete (f (263 + i) = nQ 0) with c1 | c1 <;> rcases Classical.propComplete (f (263 + i) - usF f (nQ (i / 2)) (i - i / 2 * 2) n < nQ 0) with c2 | c2 <;> simp (disch := omega) only [↓reduceIte, nQ_lt, hi, w1, nQ_div, nQ_mul, nQ_sub, k1, k2, k3, k4, k5, k6, k7, k8, k9, av, gl, es, m1_lt, m1_0, eq_self, cn_l, Option.toList, List.cons_append, List.nil_append, if_true, if_false, nQ_add, gF, gT, Nat.add_zero, Nat.not_lt_zero, n01, p1, p2, e0, ez, co', hts, c3, nQ_m1, c1, c2, g111_36, g111_46, g111_56, g111_66, g111_77, g111_86, g111_93, g111_94, g111_104, g111_123, g111_136, g111_152, g111_153, g111_162, g111_175, g111_191, g111_201, g111_209, g111_222, g111_239, g111_258, g111_266, g111_278, g111_291]
    · rw [if_pos (hov.mpr (by omega))] at av gT
      rw [show z - (t - s) = 0 by omega] at gl
      have co' := eq_false co
      refine ⟨nQ 0, nQ 1, ?_⟩
      rw [g111_9]
      simp (disch := omega) only [↓reduceIte, nQ_lt, hi, w1, nQ_div, nQ_mul, nQ_sub, k1, k2, k3, k4, k5, k6, k7, k8, k9, av, gl, es, m1_lt, m1_0, eq_self, cn_l, Option.toList, List.cons_append, List.nil_append, if_true, if_false, nQ_add, gF, gT, Nat.add_zero, Nat.not_lt_zero, n01, p1, p2, e0, ez, co', hts, nQ_m1, g111_36, g111_46, g111_56, g111_66, g111_77, g111_86, g111_93, g111_94, g111_104, g111_123, g111_136, g111_152, g111_153, g111_162, g111_175, g111_191, g111_201, g111_209, g111_222, g111_239, g111_258, g111_266, g111_278, g111_291]
/-- all holds -/
theorem hold_c (hI : InvF f n) (hG : GX f n T) (hT : T < 100000) (h : RW τ f H c g) : ∃ τ', DoM 111 [.ref 8] τ = some (.inl (some (.int (nQ 1))), τ') ∧ RW τ' f H c g ∧ Fr8 τ τ' := by
  have Lp : ∀ (m i : Nat) (o5 o6 o7 o8 o9 o10 o11 o12 : Option Value), i + m = 18 → ∃ σ', (RW σ' f H c g ∧ Fr8 τ σ') ∧ RuM 111 (9, [some (.ref 8), some (.int (nQ (gcN f false i))), some (.int (nQ (gcN f true i))), some (.int (nQ 1)), some (.int (nQ i)), o5, o6, o7, o8, o9, o10, o11, o12], [], 0, 0) τ = some (.inl (some (.int (nQ 1))), σ') := by
    intro m
    induction m with
    | zero =>
      intro i o5 o6 o7 o8 o9 o10 o11 o12 e
      obtain rfl : i = 18 := e
      have h186 : 186 ≤ nxM τ := h.1.1.2
      have L0 : LhI τ f g H c n (nxM τ) 0 (nwM τ 2 4) := by
        refine ⟨⟨RW_nw h 2 4, h186⟩, tk_nw τ 2 4, fun v hv => ?_, fun q _ => rd_nw τ 2 4 q⟩
        have hg := Gr_nw (σ := τ) rfl 2 4 v (by omega)
        exact ⟨hg.1, hg.2.2⟩
      obtain ⟨σ', x1, x2⟩ := ho_acc hI hG hT (o8 := o8) (o9 := o9) (o10 := o10) (o11 := o11) (o12 := o12) 9 0 _ o7 rfl L0
      refine ⟨σ', x1, ?_⟩
      rw [g111_9, if_neg (by rw [nQ_lt (by decide) (by decide)]; decide), g111_302]
      exact x2
    | succ m ih =>
      intro i o5 o6 o7 o8 o9 o10 o11 o12 e
      obtain ⟨l, ov, x⟩ := ho_turn hI hG hT h (i := i) (by omega) o5 o6 o7 o8 o9 o10 o11 o12
      obtain ⟨σ', x1, x2⟩ := ih (i + 1) _ _ _ _ _ _ _ _ (by omega)
      exact ⟨σ', x1, x.trans x2⟩
  obtain ⟨σ', x1, x2⟩ := Lp 18 0 none none none none none none none none rfl
  exact ⟨σ', (g111_0).trans x2, x1⟩
end Hr
