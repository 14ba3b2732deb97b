/-! The class's operations on files: deleting and moving. -/
theorem er_perm (g g' : Nat → QdM) (j : Nat) : ∀ m, j ≤ m → (∀ k, k < m → g' k = if k < j then g k else g (k + 1)) → (Lq g (m + 1)).Perm (g j :: Lq g' m)
  | 0, hj, _ => by
    obtain rfl : j = 0 := by omega
    exact List.Perm.refl _
  | m + 1, hj, h => by
    rw [Lq_s]
    by_cases e : j = m + 1
    · rw [show Lq g' (m + 1) = Lq g (m + 1) from Lq_congr (fun k hk => by rw [h k hk, if_pos (by omega)]), e]
      exact List.perm_append_singleton _ _
    · have ih := er_perm g g' j m (by omega) (fun k hk => h k (by omega))
      rw [Lq_s g' m, h m (by omega), if_neg (by omega)]
      exact ih.append_right _
theorem sw_perm (g g' : Nat → QdM) {i m : Nat} (hi : i ≤ m) (h : ∀ k, k < m → g' k = if k = i then g m else g k) : (Lq g (m + 1)).Perm (g i :: Lq g' m) := by
  rw [Lq_s]
  refine (List.perm_append_singleton _ _).trans ?_
  by_cases e : i = m
  · rw [show Lq g' m = Lq g m from Lq_congr (fun k hk => by rw [h k hk, if_neg (by omega)]), e]
  · have e1 : Lq g' m = (Lq g m).set i (g m) := by
      rw [Lq_set (g := g) (g' := g') (i := i) (fun k h1 h2 => by rw [h k h1, if_neg h2]), h i (by omega), if_pos rfl]
    rw [e1]
    exact (set_perm (Lq g m) i (g i) (g m) (by rw [List.getElem?_eq_getElem (by rw [Lq_len]; omega), Lq_get])).symm
theorem dl_z (a k : Nat) : dlt a (nQ 0) (nQ 0) k = nQ 0 := by
  unfold dlt
  split
  · split <;> rfl
  · rfl
theorem dl_mv {u0 u uf : Nat} (h : uf = if u = u0 then 0 else 1) (s k : Nat) : dlt u0 (nQ s) (nQ 1) k + dlt u0 (-nQ (uf * s)) (-nQ uf) k + dlt u (nQ (uf * s)) (nQ uf) k = dlt u (nQ s) (nQ 1) k := by
  by_cases c : u = u0
  · rw [if_pos c] at h
    rw [h, Nat.zero_mul, show -nQ 0 = nQ 0 by decide, dl_z, dl_z, z_r, z_r, c]
  · rw [if_neg c] at h
    rw [h, Nat.one_mul, dl_ng, Int32.add_comm, z_r]
section Cx
variable {σ : Mem} {b : Nat} {d : Nat → Nat → Int32} {f U : Nat → Int32}
theorem c20 (h : ShS σ b) (hR : RlC d f U) {n : Nat} (hF : FlR d f (n + 1)) (hU : UsQ f (n + 1) U) (hD : disF f (n + 1)) {i j u g s : Nat} (hi : i < n + 1) (hj : j < n + 1) (hk : d 9 i = f (5 + 4 * j)) (hu : u < 6) (hg : g < 3) (eu : f (5 + 4 * j + 1) = nQ u) (eg : f (5 + 4 * j + 2) = nQ g) (es : f (5 + 4 * j + 3) = nQ s) : ∃ d', DoM 20 [.ref b, .int (nQ i)] (sB 17 σ b d) = some (.inl (some (.int (nQ s))), sB 17 σ b d') ∧ RlC d' (deF f (n + 1) j) (fun k => usF (deF f (n + 1) j) (nQ (k / 2)) (k - k / 2 * 2) n) ∧ FlR d' (deF f (n + 1) j) n := by
  obtain ⟨h8, ⟨k0, k8, k13⟩, ⟨p1, p2, p3, p4, p5, p6, p7, p8, p9⟩, ⟨q1, q2, q3, q4⟩, ⟨e2, e3, e4⟩, ⟨t1, t2, t3, t4, t5, t6, t7⟩, ⟨t9, t10, t11, t12⟩, ⟨t14, t15, t16⟩⟩ := id h
  have hq0 := fl_at hF hD hi hj hk
  obtain ⟨f1, f2, f3, f4⟩ := id hF
  have y1 : d 10 i = nQ u := (congrArg (·.2.1) hq0).trans eu
  have y2 : d 11 i = nQ g := (congrArg (·.2.2.1) hq0).trans eg
  have y3 : d 12 i = nQ s := (congrArg (·.2.2.2) hq0).trans es
  have e1 : qM f j = (f (5 + 4 * j), nQ u, nQ g, nQ s) := by unfold qM; rw [eu, eg, es]
  have hm : ∀ k, k < n → qM (deK (up f 4 (nQ n)) j (4 * n)) k = if k < j then qM f k else qM f (k + 1) := by
    intro k hk
    unfold qM deK
    by_cases c : k < j
    · simp (disch := omega) only [c, if_true, if_neg, up_n]
    · simp (disch := omega) only [c, if_false, if_pos, up_n]
      rw [show 5 + 4 * k + 4 = 5 + 4 * (k + 1) by omega, show 5 + 4 * k + 1 + 4 = 5 + 4 * (k + 1) + 1 by omega, show 5 + 4 * k + 2 + 4 = 5 + 4 * (k + 1) + 2 by omega, show 5 + 4 * k + 3 + 4 = 5 + 4 * (k + 1) + 3 by omega]
  have pm := er_perm (qM f) (qM (deK (up f 4 (nQ n)) j (4 * n))) j n (by omega) hm
  have hc : ∀ k, k < n → qC (rX (rX (rX (rX (rX d 9 (up (d 9) i (d 9 n))) 10 (up (d 10) i (d 10 n))) 11 (up (d 11) i (d 11 n))) 12 (up (d 12) i (d 12 n))) 8 (up (d 8) 0 (nQ n))) k = if k = i then qC d n else qC d k := by
    intro k hk
    unfold qC
    by_cases c : k = i
    · simp (disch := omega) only [c, if_true, rX_n, rX_s, up_s]
    · simp (disch := omega) only [c, if_false, rX_n, rX_s, up_n]
  have pc := sw_perm (qC d) (qC (rX (rX (rX (rX (rX d 9 (up (d 9) i (d 9 n))) 10 (up (d 10) i (d 10 n))) 11 (up (d 11) i (d 11 n))) 12 (up (d 12) i (d 12 n))) 8 (up (d 8) 0 (nQ n)))) (i := i) (m := n) (by omega) hc
  have pp := pc.symm.trans (f4.trans pm)
  rw [hq0] at pp
  have pp := (List.perm_cons _).mp pp
  have hU' : UsQ (deK (up f 4 (nQ n)) j (4 * n)) n (chU (chU U u (-nQ s) (-1)) (6 + g) (-nQ s) (-1)) := by
    intro k hk
    have hs := sm_perm (gAR (nQ (k / 2)) (k - k / 2 * 2)) pm
    rw [← us_sm, ← hU k hk] at hs
    have hs : U k = gAR (nQ (k / 2)) (k - k / 2 * 2) (qM f j) + smQ (gAR (nQ (k / 2)) (k - k / 2 * 2)) (Lq (qM (deK (up f 4 (nQ n)) j (4 * n))) n) := hs
    rw [← us_sm, e1, gA_dl hu hg hk] at hs
    rw [chU_k, chU_k, hs]
    have t1 := dl_ng u k (nQ s) (nQ 1)
    have t2 := dl_ng (6 + g) k (nQ s) (nQ 1)
    have t3 : dlt u (nQ s) (nQ 1) k + dlt (6 + g) (nQ s) (nQ 1) k + usF (deK (up f 4 (nQ n)) j (4 * n)) (nQ (k / 2)) (k - k / 2 * 2) n + dlt u (-nQ s) (-nQ 1) k + dlt (6 + g) (-nQ s) (-nQ 1) k = (dlt u (nQ s) (nQ 1) k + dlt u (-nQ s) (-nQ 1) k) + (dlt (6 + g) (nQ s) (nQ 1) k + dlt (6 + g) (-nQ s) (-nQ 1) k) + usF (deK (up f 4 (nQ n)) j (4 * n)) (nQ (k / 2)) (k - k / 2 * 2) n := by ac_rfl
    rw [show (-1 : Int32) = -nQ 1 by decide, t3, t1, t2, z_r, Int32.add_comm, z_r]
  have hf0 : ∀ k, k < 4 ∨ 245 ≤ k → deK (up f 4 (nQ n)) j (4 * n) k = f k := fun k hk => by
    unfold deK
    rw [if_neg (by omega), up_n (by omega)]
  have hR1 := Rl_ch (Rl_ch hR (-nQ s) (-1) (a := u) (by omega)) (-nQ s) (-1) (a := 6 + g) (by omega)
  have r8 := c8 (d := chD (chD d u (-nQ s) (-1)) (6 + g) (-nQ s) (-1)) h (n := n) (i := i) f1 (by omega) (by omega)
  have hR2 := Rl_fl (d' := rX (rX (rX (rX (rX (chD (chD d u (-nQ s) (-1)) (6 + g) (-nQ s) (-1)) 9 (up (d 9) i (d 9 n))) 10 (up (d 10) i (d 10 n))) 11 (up (d 11) i (d 11 n))) 12 (up (d 12) i (d 12 n))) 8 (up (d 8) 0 (nQ n))) hR1 (fun u' hu' => by rw [rX_n (by omega), rX_n (by omega), rX_n (by omega), rX_n (by omega), rX_n (by omega)]) hf0
  obtain ⟨d', x1, x2, x3⟩ := c27f h hR2 (n := n) ⟨by rw [rX_s, up_s], by unfold deK; rw [if_neg (by omega), up_s], by omega, pp⟩ hU'
  refine ⟨d', ?_, x2, x3⟩
  have z1 : chD d u (-nQ s) (-1) 11 = d 11 := rfl
  refine (g20_0).trans ?_
  simp (disch := omega) only [aOk, eq_self, tk_sB, pr_sB, tk_wr, pr_wr, nQ_nat, nQ_neg, nQ_add, nQ_mul, nQ_lt, leF, ltT, ltF, rd_sB, rd_sB0, wr_sB, wr_sB0, cn_l, cn_r, Option.toList, List.cons_append, List.nil_append, if_true, if_false, true_and, and_true, or_false, false_or, true_or, or_true, not_false_eq_true, not_true_eq_false, and_false, false_and, zb_0, zb_1, q10, k0, k8, k13, p1, p2, p3, p4, p5, p6, p7, p8, p9, q1, q2, q3, q4, e2, e3, e4, t1, t2, t3, t4, t5, t6, t7, t9, t10, t11, t12, t14, t15, t16, le8 h8, y1, y2, y3, c99, c22 h, z1, r8, g20_26, g20_39, g20_45, g20_57]
  rw [g20_53]
  have x1' : DoM 27 [.ref b] (sB 17 σ b (rX (rX (rX (rX (rX (chD (chD d u (-nQ s) (-1)) (6 + g) (-nQ s) (-1)) 9 (up (chD (chD d u (-nQ s) (-1)) (6 + g) (-nQ s) (-1) 9) i (chD (chD d u (-nQ s) (-1)) (6 + g) (-nQ s) (-1) 9 n))) 10 (up (chD (chD d u (-nQ s) (-1)) (6 + g) (-nQ s) (-1) 10) i (chD (chD d u (-nQ s) (-1)) (6 + g) (-nQ s) (-1) 10 n))) 11 (up (chD (chD d u (-nQ s) (-1)) (6 + g) (-nQ s) (-1) 11) i (chD (chD d u (-nQ s) (-1)) (6 + g) (-nQ s) (-1) 11 n))) 12 (up (chD (chD d u (-nQ s) (-1)) (6 + g) (-nQ s) (-1) 12) i (chD (chD d u (-nQ s) (-1)) (6 + g) (-nQ s) (-1) 12 n))) 8 (up (chD (chD d u (-nQ s) (-1)) (6 + g) (-nQ s) (-1) 8) 0 (nQ n)))) = some (.inl none, sB 17 σ b d') := x1
  simp (disch := omega) only [aOk, eq_self, tk_sB, pr_sB, tk_wr, pr_wr, nQ_nat, nQ_neg, nQ_add, nQ_mul, nQ_lt, leF, ltT, ltF, rd_sB, rd_sB0, wr_sB, wr_sB0, cn_l, cn_r, Option.toList, List.cons_append, List.nil_append, if_true, if_false, true_and, and_true, or_false, false_or, true_or, or_true, not_false_eq_true, not_true_eq_false, and_false, false_and, zb_0, zb_1, q10, k0, k8, k13, p1, p2, p3, p4, p5, p6, p7, p8, p9, q1, q2, q3, q4, e2, e3, e4, t1, t2, t3, t4, t5, t6, t7, t9, t10, t11, t12, t14, t15, t16, le8 h8, x1', g20_57]
theorem c21 (h : ShS σ b) (hR : RlC d f U) {n : Nat} (hF : FlR d f n) (hU : UsQ f n U) (hD : disF f n) {i j u0 g0 s u g : Nat} (hi : i < n) (hj : j < n) (hk : d 9 i = f (5 + 4 * j)) (hu0 : u0 < 6) (hg0 : g0 < 3) (hs : s ≤ 5000) (eu : f (5 + 4 * j + 1) = nQ u0) (eg : f (5 + 4 * j + 2) = nQ g0) (es : f (5 + 4 * j + 3) = nQ s) (hu : u < 6) (hg : g < 3) (r0 : Nat → Int32) : ∃ d', DoM 21 [.ref b, .int (nQ i), .int (nQ u), .int (nQ g)] (sB 17 σ b d) = some (.inl (some (.int (nQ (raN f n (mrF f r0 u g j) u g)))), sB 17 σ b d') ∧
    RlC d' (mvF f n (mrF f r0 u g j) u g j) (fun k => usF (mvF f n (mrF f r0 u g j) u g j) (nQ (k / 2)) (k - k / 2 * 2) n) ∧ FlR d' (mvF f n (mrF f r0 u g j) u g j) n := by
  obtain ⟨h8, ⟨k0, k8, k13⟩, ⟨p1, p2, p3, p4, p5, p6, p7, p8, p9⟩, ⟨q1, q2, q3, q4⟩, ⟨e2, e3, e4⟩, ⟨t1, t2, t3, t4, t5, t6, t7⟩, ⟨t9, t10, t11, t12⟩, ⟨t14, t15, t16⟩⟩ := id h
  have hq0 := fl_at hF hD hi hj hk
  obtain ⟨f1, f2, f3, f4⟩ := id hF
  have y1 : d 10 i = nQ u0 := (congrArg (·.2.1) hq0).trans eu
  have y2 : d 11 i = nQ g0 := (congrArg (·.2.2.1) hq0).trans eg
  have y3 : d 12 i = nQ s := (congrArg (·.2.2.2) hq0).trans es
  obtain ⟨uf, huf⟩ : ∃ uf, uf = if u = u0 then 0 else 1 := ⟨_, rfl⟩
  obtain ⟨gf, hgf⟩ : ∃ gf, gf = if g = g0 then 0 else 1 := ⟨_, rfl⟩
  have huf1 : uf ≤ 1 := by rw [huf]; split <;> decide
  have hgf1 : gf ≤ 1 := by rw [hgf]; split <;> decide
  have hus : uf * s ≤ 5000 := Nat.le_trans (Nat.mul_le_mul_right s huf1) (by omega)
  have hgs : gf * s ≤ 5000 := Nat.le_trans (Nat.mul_le_mul_right s hgf1) (by omega)
  have hri : mrF f r0 u g j = riF r0 (nQ (uf * s)) (nQ uf) (nQ (gf * s)) (nQ gf) := by
    unfold mrF
    rw [eu, eg, es]
    simp (disch := omega) only [nQ_eq]
    rw [huf, hgf]
    have q1 : (u0 = u) = (u = u0) := propext ⟨Eq.symm, Eq.symm⟩
    have q2 : (g0 = g) = (g = g0) := propext ⟨Eq.symm, Eq.symm⟩
    simp only [q1, q2]
    rcases Classical.propComplete (u = u0) with w1 | w1 <;> rcases Classical.propComplete (g = g0) with w2 | w2 <;> simp only [w1, w2, if_true, if_false, Nat.zero_mul, Nat.one_mul]
  have hf0 : ∀ k, k < 4 ∨ 245 ≤ k → up (up f (5 + 4 * j + 1) (nQ u)) (5 + 4 * j + 2) (nQ g) k = f k := fun k hk => by rw [up_n (by omega), up_n (by omega)]
  have hfq : ∀ k, k < n → ¬ k = j → qM (up (up f (5 + 4 * j + 1) (nQ u)) (5 + 4 * j + 2) (nQ g)) k = qM f k := fun k h1 h2 => by unfold qM; simp (disch := omega) only [up_n]
  have e1 : qM f j = (f (5 + 4 * j), nQ u0, nQ g0, nQ s) := by unfold qM; rw [eu, eg, es]
  have e2 : qM (up (up f (5 + 4 * j + 1) (nQ u)) (5 + 4 * j + 2) (nQ g)) j = (f (5 + 4 * j), nQ u, nQ g, nQ s) := by unfold qM; simp (disch := omega) only [up_n, up_s, es]
  have r23 := c23 h hR hU hu hg (x0 := nQ (uf * s)) (x1 := nQ uf) (x2 := nQ (gf * s)) (x3 := nQ gf) (ri := riF r0 (nQ (uf * s)) (nQ uf) (nQ (gf * s)) (nQ gf)) (by_q hus) (by_q (by omega)) (by_q hgs) (by_q (by omega))
  have X : DoM 21 [.ref b, .int (nQ i), .int (nQ u), .int (nQ g)] (sB 17 σ b d) = RuM 21 (49, [some (.ref b), some (.int (nQ i)), some (.int (nQ u)), some (.int (nQ g)), some (.int (nQ s)), some (.int (nQ uf)), none, none, none, none], [.int (nQ gf)], 0, 0) (sB 17 σ b d) := by
    have v1 : (nQ u = nQ u0) = (u = u0) := nQ_eq (by omega) (by omega)
    have v2 : (nQ g = nQ g0) = (g = g0) := nQ_eq (by omega) (by omega)
    refine (g21_0).trans ?_
    rw [huf, hgf]
    rcases Classical.propComplete (u = u0) with w1 | w1 <;> rcases Classical.propComplete (g = g0) with w2 | w2 <;> simp (disch := omega) only [aOk, eq_self, tk_sB, pr_sB, tk_wr, pr_wr, nQ_nat, nQ_neg, nQ_add, nQ_mul, nQ_lt, leF, ltT, ltF, rd_sB, rd_sB0, wr_sB, wr_sB0, cn_l, cn_r, Option.toList, List.cons_append, List.nil_append, if_true, if_false, true_and, and_true, or_false, false_or, true_or, or_true, not_false_eq_true, not_true_eq_false, and_false, false_and, zb_0, zb_1, q10, k0, k8, k13, p1, p2, p3, p4, p5, p6, p7, p8, p9, q1, q2, q3, q4, e2, e3, e4, t1, t2, t3, t4, t5, t6, t7, t9, t10, t11, t12, t14, t15, t16, le8 h8, y1, y2, y3, v1, v2, w1, w2, g21_29]
  rw [X, hri]
  unfold mvF
  have l := ra_le f n (riF r0 (nQ (uf * s)) (nQ uf) (nQ (gf * s)) (nQ gf)) u g
  by_cases hq : raN f n (riF r0 (nQ (uf * s)) (nQ uf) (nQ (gf * s)) (nQ gf)) u g = 0
  · simp only [if_pos hq]
    have hU' : UsQ (up (up f (5 + 4 * j + 1) (nQ u)) (5 + 4 * j + 2) (nQ g)) n (chU (chU (chU (chU U u0 (-nQ (uf * s)) (-nQ uf)) u (nQ (uf * s)) (nQ uf)) (6 + g0) (-nQ (gf * s)) (-nQ gf)) (6 + g) (nQ (gf * s)) (nQ gf)) := by
      intro k hk
      have hs := sm_ch hj hfq (nQ (k / 2)) (k - k / 2 * 2)
      rw [e1, e2, gA_dl hu0 hg0 hk, gA_dl hu hg hk, ← hU k hk] at hs
      rw [chU_k, chU_k, chU_k, chU_k]
      refine (Int32.add_right_inj (dlt u0 (nQ s) (nQ 1) k + dlt (6 + g0) (nQ s) (nQ 1) k)).mp ?_
      have hgf' : gf = if 6 + g = 6 + g0 then 0 else 1 := by rw [hgf]; split <;> split <;> omega
      rw [hs, ← dl_mv huf s k, ← dl_mv hgf' s k]
      ac_rfl
    have hR1 := Rl_ch (Rl_ch (Rl_ch (Rl_ch hR (-nQ (uf * s)) (-nQ uf) (a := u0) (by omega)) (nQ (uf * s)) (nQ uf) (a := u) (by omega)) (-nQ (gf * s)) (-nQ gf) (a := 6 + g0) (by omega)) (nQ (gf * s)) (nQ gf) (a := 6 + g) (by omega)
    have hR2 := Rl_fl (d' := rX (rX (chD (chD (chD (chD d u0 (-nQ (uf * s)) (-nQ uf)) u (nQ (uf * s)) (nQ uf)) (6 + g0) (-nQ (gf * s)) (-nQ gf)) (6 + g) (nQ (gf * s)) (nQ gf)) 10 (up (d 10) i (nQ u))) 11 (up (d 11) i (nQ g))) hR1 (fun u' hu' => by rw [rX_n (by omega), rX_n (by omega)]) hf0
    obtain ⟨d', x1, x2, x3⟩ := c27f h hR2 (n := n) ⟨by rw [rX_n (by omega), rX_n (by omega), ch_n (by omega), ch_n (by omega), ch_n (by omega), ch_n (by omega), f1], by rw [up_n (by omega), up_n (by omega), f2], f3, pm_ch f4 hi hj hq0 (by
        rw [e2]
        unfold qC
        simp (disch := omega) only [rX_n, rX_s, ch_n, up_s, hk, y3]) (fun k h1 h2 => by
        unfold qC
        simp (disch := omega) only [rX_n, rX_s, ch_n, up_n]) hfq⟩ hU'
    refine ⟨d', ?_, x2, x3⟩
    have m1 : -nQ uf = -(nQ uf) := rfl
    simp (disch := omega) only [aOk, eq_self, tk_sB, pr_sB, tk_wr, pr_wr, nQ_nat, nQ_neg, nQ_add, nQ_mul, nQ_lt, leF, ltT, ltF, rd_sB, rd_sB0, wr_sB, wr_sB0, cn_l, cn_r, Option.toList, List.cons_append, List.nil_append, if_true, if_false, true_and, and_true, or_false, false_or, true_or, or_true, not_false_eq_true, not_true_eq_false, and_false, false_and, zb_0, zb_1, q10, k0, k8, k13, p1, p2, p3, p4, p5, p6, p7, p8, p9, q1, q2, q3, q4, e2, e3, e4, t1, t2, t3, t4, t5, t6, t7, t9, t10, t11, t12, t14, t15, t16, le8 h8, c99, r23, hq, c22 h, ch_n, y1, y2, x1, rX_n, g21_49, g21_79, g21_116, g21_125, g21_138, g21_147, g21_152, g21_159, g21_169, g21_179, g21_183]
  · simp only [if_neg hq]
    have hq' : (nQ (raN f n (riF r0 (nQ (uf * s)) (nQ uf) (nQ (gf * s)) (nQ gf)) u g) = nQ 0) = False := by rw [nQ_eq (by omega) (by decide)]; exact eq_false hq
    obtain ⟨d', x1, x2, x3⟩ := c26f h hR hF hU hu hg hq
    refine ⟨d', ?_, x2, x3⟩
    simp (disch := omega) only [aOk, eq_self, tk_sB, pr_sB, tk_wr, pr_wr, nQ_nat, nQ_neg, nQ_add, nQ_mul, nQ_lt, leF, ltT, ltF, rd_sB, rd_sB0, wr_sB, wr_sB0, cn_l, cn_r, Option.toList, List.cons_append, List.nil_append, if_true, if_false, true_and, and_true, or_false, false_or, true_or, or_true, not_false_eq_true, not_true_eq_false, and_false, false_and, zb_0, zb_1, q10, k0, k8, k13, p1, p2, p3, p4, p5, p6, p7, p8, p9, q1, q2, q3, q4, e2, e3, e4, t1, t2, t3, t4, t5, t6, t7, t9, t10, t11, t12, t14, t15, t16, le8 h8, r23, hq', x1, g21_49, g21_79, g21_94]
end Cx
