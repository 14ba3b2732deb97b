/-! The largest file, on both sides. -/
abbrev chQ (a : Int32) (x : QdM) : Prop := x.2.1 = a ∨ nQ 6 + x.2.2.1 = a
def leQ (x y : QdM) : Prop := x.2.2.2.toInt < y.2.2.2.toInt ∨ (x.2.2.2.toInt = y.2.2.2.toInt ∧ y.1.toInt ≤ x.1.toInt)
abbrev btQ (k z : Int32) (x : QdM) : Prop := z < x.2.2.2 ∨ (x.2.2.2 = z ∧ x.1 < k)
def BI (g : Nat → QdM) (a : Int32) (i : Nat) (k z : Int32) : Prop := (k = -1 ∧ z = -1 ∧ ∀ y, y < i → ¬ chQ a (g y)) ∨ ∃ j, j < i ∧ chQ a (g j) ∧ k = (g j).1 ∧ z = (g j).2.2.2 ∧ ∀ y, y < i → chQ a (g y) → leQ (g y) (g j)
theorem bt_le {k z : Int32} {x : QdM} : btQ k z x ↔ z.toInt < x.2.2.2.toInt ∨ (x.2.2.2.toInt = z.toInt ∧ x.1.toInt < k.toInt) := by
  unfold btQ
  rw [Int32.lt_iff_toInt_lt, Int32.lt_iff_toInt_lt, ← Int32.toInt_inj]
theorem leQ_r (x : QdM) : leQ x x := Or.inr ⟨rfl, Int.le_refl _⟩
theorem BI_st {g : Nat → QdM} {a : Int32} {i : Nat} {k z : Int32} (h : BI g a i k z) (hz : 0 ≤ (g i).2.2.2.toInt) : BI g a (i + 1) (if btQ k z (g i) ∧ chQ a (g i) then (g i).1 else k) (if btQ k z (g i) ∧ chQ a (g i) then (g i).2.2.2 else z) := by
  by_cases c : btQ k z (g i) ∧ chQ a (g i)
  · rw [if_pos c, if_pos c]
    obtain ⟨cb, cc⟩ := c
    rw [bt_le] at cb
    refine Or.inr ⟨i, by omega, cc, rfl, rfl, fun y hy hc => ?_⟩
    by_cases e : y = i
    · subst e; exact leQ_r _
    · rcases h with ⟨-, -, h3⟩ | ⟨j, h1, h2, rfl, rfl, h5⟩
      · exact absurd hc (h3 y (by omega))
      · have := h5 y (by omega) hc
        unfold leQ at this ⊢
        omega
  · rw [if_neg c, if_neg c]
    rcases h with ⟨rfl, rfl, h3⟩ | ⟨j, h1, h2, rfl, rfl, h5⟩
    · refine Or.inl ⟨rfl, rfl, fun y hy => ?_⟩
      by_cases e : y = i
      · subst e
        intro hc
        refine c ⟨bt_le.mpr (Or.inl ?_), hc⟩
        have : ((-1 : Int32)).toInt = -1 := rfl
        omega
      · exact h3 y (by omega)
    · refine Or.inr ⟨j, by omega, h2, rfl, rfl, fun y hy hc => ?_⟩
      by_cases e : y = i
      · subst e
        have : ¬ btQ (g j).1 (g j).2.2.2 (g y) := fun z => c ⟨z, hc⟩
        rw [bt_le] at this
        unfold leQ
        omega
      · exact h5 y (by omega) hc
/-- what the model finds -/
def BO (g : Nat → QdM) (a : Int32) (i : Nat) : Option Nat → Prop
  | none => ∀ y, y < i → ¬ chQ a (g y)
  | some j => j < i ∧ chQ a (g j) ∧ ∀ y, y < i → chQ a (g y) → leQ (g y) (g j)
theorem bt_le2 {f : Nat → Int32} {j i zi zj : Nat} (h1 : f (5 + 4 * i + 3) = nQ zi) (h2 : f (5 + 4 * j + 3) = nQ zj) (hi : zi ≤ 5000) (hj : zj ≤ 5000) : btP f j i ↔ ¬ leQ (qM f i) (qM f j) := by
  have t1 : (f (5 + 4 * i + 3)).toInt = zi := by rw [h1, nQ_int (by omega)]
  have t2 : (f (5 + 4 * j + 3)).toInt = zj := by rw [h2, nQ_int (by omega)]
  have ts : (f (5 + 4 * i + 3) - f (5 + 4 * j + 3)).toInt = (zi : Int) - zj := by
    rw [Int32.toInt_sub, t1, t2]
    exact Int.bmod_eq_of_le (by omega) (by omega)
  have t0 : (nQ 0).toInt = 0 := rfl
  unfold btP leQ qM
  rw [Int32.lt_iff_toInt_lt, Int32.lt_iff_toInt_lt, ← Int32.toInt_inj, ts, t0]
  dsimp only
  rw [t1, t2]
  omega
theorem la_BO {f e : Nat → Int32} {a : Int32} {n : Nat} (hI : InvA f n) (he : ∀ i, i < n → e i = nQ 0) : ∀ i, i ≤ n → BO (qM f) a i (laO f e a i)
  | 0, _ => fun y hy => absurd hy (Nat.not_lt_zero y)
  | i + 1, hi => by
    have ih := la_BO (a := a) hI he i (by omega)
    rw [la_s]
    have e0 := he i (by omega)
    cases hl : laO f e a i with
    | none =>
      rw [hl] at ih
      dsimp only
      by_cases c : chP f a i
      · rw [if_pos ⟨c, e0⟩]
        refine ⟨by omega, c, fun y hy hc => ?_⟩
        by_cases ey : y = i
        · subst ey; exact leQ_r _
        · exact absurd hc (ih y (by omega))
      · rw [if_neg (fun z => c z.1)]
        intro y hy
        by_cases ey : y = i
        · subst ey; exact c
        · exact ih y (by omega)
    | some j =>
      rw [hl] at ih
      obtain ⟨h1, h2, h3⟩ := ih
      dsimp only
      obtain ⟨-, -, zi, -, -, hi5, -, -, ei⟩ := hI.1 i (by omega)
      obtain ⟨-, -, zj, -, -, hj5, -, -, ej⟩ := hI.1 j (by omega)
      have hb := bt_le2 (f := f) (j := j) (i := i) ei ej hi5 hj5
      by_cases c : btP f j i ∧ chP f a i ∧ e i = nQ 0
      · rw [if_pos c]
        refine ⟨by omega, c.2.1, fun y hy hc => ?_⟩
        by_cases ey : y = i
        · subst ey; exact leQ_r _
        · have q1 := h3 y (by omega) hc
          have q2 := hb.mp c.1
          unfold leQ at q1 q2 ⊢
          omega
      · rw [if_neg c]
        refine ⟨by omega, h2, fun y hy hc => ?_⟩
        by_cases ey : y = i
        · subst ey
          exact Classical.byContradiction fun q => c ⟨hb.mpr q, hc, e0⟩
        · exact h3 y (by omega) hc
section Pa
variable {σ : Mem} {b : Nat} {d : Nat → Nat → Int32}
theorem c13 (h : ShS σ b) {n : Nat} (hn : d 8 0 = nQ n) (h60 : n ≤ 60) (hz : ∀ i, i < n → 0 ≤ (d 12 i).toInt) (a : Int32) : ∃ k z, DoM 13 [.ref (b + 8), .int a] (sB 17 σ b d) = some (.inl (some (.int k)), sB 17 σ b d) ∧ BI (qC d) a n k z := by
  obtain ⟨h8, ⟨k0, k8, k13⟩, ⟨p1, p2, p3, p4, p5, p6, p7, p8, p9⟩, ⟨q1, q2, q3, q4⟩, ⟨e2, e3, e4⟩, ⟨t1, t2, t3, t4, t5, t6, t7⟩, ⟨t9, t10, t11, t12⟩, ⟨t14, t15, t16⟩⟩ := id h
  have L : ∀ (m i : Nat) (k z : Int32) (o5 : Option Value), i + m = n → BI (qC d) a i k z → ∃ k' z', RuM 13 (7, [some (.ref (b + 8)), some (.int a), some (.int k), some (.int z), some (.int (nQ i)), o5], [], 0, 0) (sB 17 σ b d) = some (.inl (some (.int k')), sB 17 σ b d) ∧ BI (qC d) a n k' z' := by
    intro m
    induction m with
    | zero =>
      intro i k z o5 hi hB
      obtain rfl : i = n := by omega
      refine ⟨k, z, ?_, hB⟩
      rw [g13_7]
      simp (disch := omega) only [aOk, eq_self, tk_sB, pr_sB, tk_wr, pr_wr, nQ_nat, nQ_neg, nQ_add, nQ_mul, nQ_lt, leF, ltT, ltF, rd_sB, rd_sB0, wr_sB, wr_sB0, cn_l, cn_r, Option.toList, List.cons_append, List.nil_append, if_true, if_false, true_and, and_true, or_false, false_or, true_or, or_true, not_false_eq_true, not_true_eq_false, and_false, false_and, zb_0, zb_1, q10, k0, k8, k13, p1, p2, p3, p4, p5, p6, p7, p8, p9, q1, q2, q3, q4, e2, e3, e4, t1, t2, t3, t4, t5, t6, t7, t9, t10, t11, t12, t14, t15, t16, le8 h8, hn, Nat.lt_irrefl]
    | succ m ih =>
      intro i k z o5 hi hB
      have hlt : i < n := by omega
      have hB' := BI_st hB (hz i hlt)
      have e9 := c9 h (i := i) (by omega) a (d := d)
      obtain ⟨k', z', y1, y2⟩ := ih (i + 1) _ _ (some (.int (if btQ k z (qC d i) then nQ 1 else nQ 0))) (by omega) hB'
      refine ⟨k', z', ?_, y2⟩
      rw [← y1, g13_7]
      clear y1 y2 ih hB hB'
      show _ = RuM 13 (7, [some (.ref (b + 8)), some (.int a), some (.int (if (z < d 12 i ∨ (d 12 i = z ∧ d 9 i < k)) ∧ chC d a i then d 9 i else k)), some (.int (if (z < d 12 i ∨ (d 12 i = z ∧ d 9 i < k)) ∧ chC d a i then d 12 i else z)), some (.int (nQ (i + 1))), some (.int (if z < d 12 i ∨ (d 12 i = z ∧ d 9 i < k) then nQ 1 else nQ 0))], [], 0, 0) _
      rcases Classical.propComplete (z < d 12 i) with c1 | c1
      · rcases Classical.propComplete (chC d a i) with c4 | c4 <;> simp only [c4, if_true, if_false] at e9 <;> simp (disch := omega) only [aOk, eq_self, tk_sB, pr_sB, tk_wr, pr_wr, nQ_nat, nQ_neg, nQ_add, nQ_mul, nQ_lt, leF, ltT, ltF, rd_sB, rd_sB0, wr_sB, wr_sB0, cn_l, cn_r, Option.toList, List.cons_append, List.nil_append, if_true, if_false, true_and, and_true, or_false, false_or, true_or, or_true, not_false_eq_true, not_true_eq_false, and_false, false_and, zb_0, zb_1, q10, k0, k8, k13, p1, p2, p3, p4, p5, p6, p7, p8, p9, q1, q2, q3, q4, e2, e3, e4, t1, t2, t3, t4, t5, t6, t7, t9, t10, t11, t12, t14, t15, t16, le8 h8, hn, hlt, c1, c4, e9, g13_49, g13_53, g13_54, g13_68, g13_87]
      · rcases Classical.propComplete (d 12 i = z) with c2 | c2
        · have c2' : d 12 i = z := of_eq_true c2
          rcases Classical.propComplete (d 9 i < k) with c3 | c3
          · rcases Classical.propComplete (chC d a i) with c4 | c4 <;> simp only [c4, if_true, if_false] at e9 <;> simp (disch := omega) only [aOk, eq_self, tk_sB, pr_sB, tk_wr, pr_wr, nQ_nat, nQ_neg, nQ_add, nQ_mul, nQ_lt, leF, ltT, ltF, rd_sB, rd_sB0, wr_sB, wr_sB0, cn_l, cn_r, Option.toList, List.cons_append, List.nil_append, if_true, if_false, true_and, and_true, or_false, false_or, true_or, or_true, not_false_eq_true, not_true_eq_false, and_false, false_and, zb_0, zb_1, q10, k0, k8, k13, p1, p2, p3, p4, p5, p6, p7, p8, p9, q1, q2, q3, q4, e2, e3, e4, t1, t2, t3, t4, t5, t6, t7, t9, t10, t11, t12, t14, t15, t16, le8 h8, hn, hlt, c1, c2, c3, c4, e9, g13_49, g13_53, g13_54, g13_68, g13_87]
          · simp (disch := omega) only [aOk, eq_self, tk_sB, pr_sB, tk_wr, pr_wr, nQ_nat, nQ_neg, nQ_add, nQ_mul, nQ_lt, leF, ltT, ltF, rd_sB, rd_sB0, wr_sB, wr_sB0, cn_l, cn_r, Option.toList, List.cons_append, List.nil_append, if_true, if_false, true_and, and_true, or_false, false_or, true_or, or_true, not_false_eq_true, not_true_eq_false, and_false, false_and, zb_0, zb_1, q10, k0, k8, k13, p1, p2, p3, p4, p5, p6, p7, p8, p9, q1, q2, q3, q4, e2, e3, e4, t1, t2, t3, t4, t5, t6, t7, t9, t10, t11, t12, t14, t15, t16, le8 h8, hn, hlt, c1, c2, c3, g13_49, g13_53, g13_54, g13_68, g13_87]
        · simp (disch := omega) only [aOk, eq_self, tk_sB, pr_sB, tk_wr, pr_wr, nQ_nat, nQ_neg, nQ_add, nQ_mul, nQ_lt, leF, ltT, ltF, rd_sB, rd_sB0, wr_sB, wr_sB0, cn_l, cn_r, Option.toList, List.cons_append, List.nil_append, if_true, if_false, true_and, and_true, or_false, false_or, true_or, or_true, not_false_eq_true, not_true_eq_false, and_false, false_and, zb_0, zb_1, q10, k0, k8, k13, p1, p2, p3, p4, p5, p6, p7, p8, p9, q1, q2, q3, q4, e2, e3, e4, t1, t2, t3, t4, t5, t6, t7, t9, t10, t11, t12, t14, t15, t16, le8 h8, hn, hlt, c1, c2, g13_49, g13_53, g13_54, g13_68, g13_87]
  obtain ⟨k, z, y1, y2⟩ := L n 0 (-1) (-1) none (by omega) (Or.inl ⟨rfl, rfl, fun y hy => absurd hy (Nat.not_lt_zero y)⟩)
  exact ⟨k, z, (g13_0).trans y1, y2⟩
end Pa
theorem toI_eq {x y : Int32} (h1 : x.toInt ≤ y.toInt) (h2 : y.toInt ≤ x.toInt) : x = y := Int32.toInt_inj.mp (Int.le_antisymm h1 h2)
section Pb
variable {L : Nat} {xs : Nat → Int32} {τ : Mem}
theorem s75 (h : RW L xs τ) (v : Int32) : StW L xs 217 175 [.int v] τ := by
  obtain ⟨n, hR, hF, hI⟩ := RW_n h
  have hM : ShM τ 186 := h.1.1.2.2.2
  have w1 : tkM τ 8 = (1, 4) := h.1.1.1.1
  have w2 : prM τ 8 0 = 9 := h.1.1.1.2.1
  have w0 : tkM τ 193 = (5, 1) := h.1.1.2.2.1.2.2.2.2.2.2.2.2.2
  have hs : ShS τ 9 := h.1.1.2.1.1
  by_cases hx : inP v (nQ 0) (nQ 8)
  · obtain ⟨k, z, e13, hB⟩ := c13 (d := rw_ τ 9) hs hF.1 hF.2.2.1 (fun i hi => by
      obtain ⟨j, hj, e⟩ := fl_to hF hi
      obtain ⟨-, -, zi, -, -, hi5, -, -, ei⟩ := hI.1.1 j hj
      have : rw_ τ 9 12 i = nQ zi := (congrArg (·.2.2.2) e).symm.trans ei
      rw [this, nQ_int (by omega)]
      omega) v
    rw [sB_rw] at e13
    have hc : DoM 75 [.ref 8, .int v] τ = some (.inl (some (.int k)), τ) := by
      refine (g75_0).trans ?_
      simp (disch := omega) only [aOk, eq_self, tk_sB, pr_sB, tk_wr, pr_wr, nQ_nat, nQ_neg, nQ_add, nQ_mul, nQ_lt, leF, ltT, ltF, rd_sB, rd_sB0, wr_sB, wr_sB0, cn_l, cn_r, Option.toList, List.cons_append, List.nil_append, if_true, if_false, true_and, and_true, or_false, false_or, true_or, or_true, not_false_eq_true, not_true_eq_false, and_false, false_and, zb_0, zb_1, q10, w1, w2, hs.2.1.1, hs.2.1.2.1, hs.2.1.2.2, hs.2.2.1.1, hs.2.2.1.2.1, hs.2.2.1.2.2.1, hs.2.2.1.2.2.2.1, hs.2.2.1.2.2.2.2.1, hs.2.2.1.2.2.2.2.2.1, hs.2.2.1.2.2.2.2.2.2.1, hs.2.2.1.2.2.2.2.2.2.2.1, hs.2.2.1.2.2.2.2.2.2.2.2, hs.2.2.2.1.1, hs.2.2.2.1.2.1, hs.2.2.2.1.2.2.1, hs.2.2.2.1.2.2.2, hs.2.2.2.2.1.1, hs.2.2.2.2.1.2.1, hs.2.2.2.2.1.2.2, hs.2.2.2.2.2.1.1, hs.2.2.2.2.2.1.2.1, hs.2.2.2.2.2.1.2.2.1, hs.2.2.2.2.2.1.2.2.2.1, hs.2.2.2.2.2.1.2.2.2.2.1, hs.2.2.2.2.2.1.2.2.2.2.2.1, hs.2.2.2.2.2.1.2.2.2.2.2.2, hs.2.2.2.2.2.2.1.1, hs.2.2.2.2.2.2.1.2.1, hs.2.2.2.2.2.2.1.2.2.1, hs.2.2.2.2.2.2.1.2.2.2, hs.2.2.2.2.2.2.2.1, hs.2.2.2.2.2.2.2.2.1, hs.2.2.2.2.2.2.2.2.2, le8 hs.1, c89, eq_true hx, e13, g75_4, g75_15]
    obtain ⟨e, e'⟩ := m175_0 (σ := wrM τ 193 0 k) (d := rw_ τ 186) hM hF.2.1 hF.2.2.1 hx
    have hO := la_BO (f := rdM τ 187) (e := fun i => if i < 60 then nQ 0 else rw_ τ 186 6 i) (a := v) hI.1 (fun i hi => if_pos (by have := hF.2.2.1; omega)) n (Nat.le_refl n)
    have ek : lfF (rdM τ 187) (laO (rdM τ 187) (fun i => if i < 60 then nQ 0 else rw_ τ 186 6 i) v n) = k := by
      cases hl : laO (rdM τ 187) (fun i => if i < 60 then nQ 0 else rw_ τ 186 6 i) v n with
      | none =>
        rw [hl] at hO
        rcases hB with ⟨rfl, -, -⟩ | ⟨j, h1, h2, -⟩
        · rfl
        · obtain ⟨j', hj', e⟩ := fl_to hF h1
          rw [← e] at h2
          exact absurd h2 (hO j' hj')
      | some j =>
        rw [hl] at hO
        obtain ⟨o1, o2, o3⟩ := hO
        obtain ⟨i, hi, ei⟩ := fl_fro hF o1
        rcases hB with ⟨-, -, h3⟩ | ⟨j', h1, h2, rfl, -, h5⟩
        · have := h3 i hi
          rw [ei] at this
          exact absurd o2 this
        · have q1 := h5 i hi (by rw [ei]; exact o2)
          obtain ⟨j2, hj2, ej2⟩ := fl_to hF h1
          have q2 := o3 j2 hj2 (by rw [ej2]; exact h2)
          rw [ei] at q1
          rw [ej2] at q2
          show (qM (rdM τ 187) j).1 = _
          unfold leQ at q1 q2
          exact toI_eq (by omega) (by omega)
    have e'' : DoM 175 [.ref 186, .int v] (sB 7 (wrM τ 193 0 k) 186 (rw_ τ 186)) = some (.inl (some (.int k)), sB 7 (wrM τ 193 0 k) 186 (rX (thF (rw_ τ 186) 0) 6 e)) := by
      rw [← ek] at e' ⊢
      exact e'
    exact StW_Q h (Cl_rfl τ) (w217_r w1 w0 hc) e'' ⟨rfl, rfl, rfl, rfl, rfl⟩ rfl
  · refine StW_E h (k := 1) (by decide) (by decide) (w217_E1 w1 ?_) (m175_1 hM hx)
    refine (g75_0).trans ?_
    simp only [w1, w2, hs.2.1.1, hs.2.1.2.1, hs.2.1.2.2, hs.2.2.1.1, hs.2.2.1.2.1, hs.2.2.1.2.2.1, hs.2.2.1.2.2.2.1, hs.2.2.1.2.2.2.2.1, hs.2.2.1.2.2.2.2.2.1, hs.2.2.1.2.2.2.2.2.2.1, hs.2.2.1.2.2.2.2.2.2.2.1, hs.2.2.1.2.2.2.2.2.2.2.2, hs.2.2.2.1.1, hs.2.2.2.1.2.1, hs.2.2.2.1.2.2.1, hs.2.2.2.1.2.2.2, hs.2.2.2.2.1.1, hs.2.2.2.2.1.2.1, hs.2.2.2.2.1.2.2, hs.2.2.2.2.2.1.1, hs.2.2.2.2.2.1.2.1, hs.2.2.2.2.2.1.2.2.1, hs.2.2.2.2.2.1.2.2.2.1, hs.2.2.2.2.2.1.2.2.2.2.1, hs.2.2.2.2.2.1.2.2.2.2.2.1, hs.2.2.2.2.2.1.2.2.2.2.2.2, hs.2.2.2.2.2.2.1.1, hs.2.2.2.2.2.2.1.2.1, hs.2.2.2.2.2.2.1.2.2.1, hs.2.2.2.2.2.2.1.2.2.2, hs.2.2.2.2.2.2.2.1, hs.2.2.2.2.2.2.2.2.1, hs.2.2.2.2.2.2.2.2.2, le8 hs.1, if_true, c89, eq_false hx, if_false, cn_r]
end Pb
