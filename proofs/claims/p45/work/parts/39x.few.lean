/-! The largest file, and the fewest deletions (when none). -/
abbrev chQ (a : Int32) (x : QdM) : Prop := x.2.1 = a ∨ nQ 6 + x.2.2.1 = a
def leQ (x y : QdM) : Prop := x.2.2.2.toInt < y.2.2.2.toInt ∨ (x.2.2.2.toInt = y.2.2.2.toInt ∧ y.1.toInt ≤ x.1.toInt)
abbrev btQ (k z : Int32) (x : QdM) : Prop := z < x.2.2.2 ∨ (x.2.2.2 = z ∧ x.1 < k)
def BI (g : Nat → QdM) (a : Int32) (i : Nat) (k z : Int32) : Prop := (k = -1 ∧ z = -1 ∧ ∀ y, y < i → ¬ chQ a (g y)) ∨ ∃ j, j < i ∧ chQ a (g j) ∧ k = (g j).1 ∧ z = (g j).2.2.2 ∧ ∀ y, y < i → chQ a (g y) → leQ (g y) (g j)
theorem bt_le {k z : Int32} {x : QdM} : btQ k z x ↔ z.toInt < x.2.2.2.toInt ∨ (x.2.2.2.toInt = z.toInt ∧ x.1.toInt < k.toInt) := by
  unfold btQ
  rw [Int32.lt_iff_toInt_lt, Int32.lt_iff_toInt_lt, ← Int32.toInt_inj]
theorem leQ_r (x : QdM) : leQ x x := Or.inr ⟨rfl, Int.le_refl _⟩
theorem BI_st {g : Nat → QdM} {a : Int32} {i : Nat} {k z : Int32} (h : BI g a i k z) (hz : 0 ≤ (g i).2.2.2.toInt) : BI g a (i + 1) (if btQ k z (g i) ∧ chQ a (g i) then (g i).1 else k) (if btQ k z (g i) ∧ chQ a (g i) then (g i).2.2.2 else z) := by
  by_cases c : btQ k z (g i) ∧ chQ a (g i)
  · rw [if_pos c, if_pos c]
    obtain ⟨cb, cc⟩ := c
    rw [bt_le] at cb
    refine Or.inr ⟨i, by omega, cc, rfl, rfl, fun y hy hc => ?_⟩
    by_cases e : y = i
    · subst e; exact leQ_r _
    · rcases h with ⟨-, -, h3⟩ | ⟨j, h1, h2, rfl, rfl, h5⟩
      · exact absurd hc (h3 y (by omega))
      · have := h5 y (by omega) hc
        unfold leQ at this ⊢
        omega
  · rw [if_neg c, if_neg c]
    rcases h with ⟨rfl, rfl, h3⟩ | ⟨j, h1, h2, rfl, rfl, h5⟩
    · refine Or.inl ⟨rfl, rfl, fun y hy => ?_⟩
      by_cases e : y = i
      · subst e
        intro hc
        refine c ⟨bt_le.mpr (Or.inl ?_), hc⟩
        have : ((-1 : Int32)).toInt = -1 := rfl
        omega
      · exact h3 y (by omega)
    · refine Or.inr ⟨j, by omega, h2, rfl, rfl, fun y hy hc => ?_⟩
      by_cases e : y = i
      · subst e
        have : ¬ btQ (g j).1 (g j).2.2.2 (g y) := fun z => c ⟨z, hc⟩
        rw [bt_le] at this
        unfold leQ
        omega
      · exact h5 y (by omega) hc
section Pa
variable {σ : Mem} {b : Nat} {d : Nat → Nat → Int32}
theorem c13 (h : ShS σ b) {n : Nat} (hn : d 8 0 = nQ n) (h60 : n ≤ 60) (hz : ∀ i, i < n → 0 ≤ (d 12 i).toInt) (a : Int32) : ∃ k z, DoM 13 [.ref (b + 8), .int a] (sB 17 σ b d) = some (.inl (some (.int k)), sB 17 σ b d) ∧ BI (qC d) a n k z := by
  obtain ⟨h8, ⟨k0, k8, k13⟩, ⟨p1, p2, p3, p4, p5, p6, p7, p8, p9⟩, ⟨q1, q2, q3, q4⟩, ⟨e2, e3, e4⟩, ⟨t1, t2, t3, t4, t5, t6, t7⟩, ⟨t9, t10, t11, t12⟩, ⟨t14, t15, t16⟩⟩ := id h
  have L : ∀ (m i : Nat) (k z : Int32) (o5 : Option Value), i + m = n → BI (qC d) a i k z → ∃ k' z', RuM 13 (7, [some (.ref (b + 8)), some (.int a), some (.int k), some (.int z), some (.int (nQ i)), o5], [], 0, 0) (sB 17 σ b d) = some (.inl (some (.int k')), sB 17 σ b d) ∧ BI (qC d) a n k' z' := by
    intro m
    induction m with
    | zero =>
      intro i k z o5 hi hB
      obtain rfl : i = n := by omega
      refine ⟨k, z, ?_, hB⟩
      rw [g13_7]
      simp (disch := omega) only [aOk, eq_self, tk_sB, pr_sB, tk_wr, pr_wr, nQ_nat, nQ_neg, nQ_add, nQ_mul, nQ_lt, leF, ltT, ltF, rd_sB, rd_sB0, wr_sB, wr_sB0, cn_l, cn_r, Option.toList, List.cons_append, List.nil_append, if_true, if_false, true_and, and_true, or_false, false_or, true_or, or_true, not_false_eq_true, not_true_eq_false, and_false, false_and, zb_0, zb_1, q10, k0, k8, k13, p1, p2, p3, p4, p5, p6, p7, p8, p9, q1, q2, q3, q4, e2, e3, e4, t1, t2, t3, t4, t5, t6, t7, t9, t10, t11, t12, t14, t15, t16, le8 h8, hn, Nat.lt_irrefl]
    | succ m ih =>
      intro i k z o5 hi hB
      have hlt : i < n := by omega
      have hB' := BI_st hB (hz i hlt)
      have e9 := c9 h (i := i) (by omega) a (d := d)
      obtain ⟨k', z', y1, y2⟩ := ih (i + 1) _ _ (some (.int (if btQ k z (qC d i) then nQ 1 else nQ 0))) (by omega) hB'
      refine ⟨k', z', ?_, y2⟩
      rw [← y1, g13_7]
      clear y1 y2 ih hB hB'
      show _ = RuM 13 (7, [some (.ref (b + 8)), some (.int a), some (.int (if (z < d 12 i ∨ (d 12 i = z ∧ d 9 i < k)) ∧ chC d a i then d 9 i else k)), some (.int (if (z < d 12 i ∨ (d 12 i = z ∧ d 9 i < k)) ∧ chC d a i then d 12 i else z)), some (.int (nQ (i + 1))), some (.int (if z < d 12 i ∨ (d 12 i = z ∧ d 9 i < k) then nQ 1 else nQ 0))], [], 0, 0) _
      rcases Classical.propComplete (z < d 12 i) with c1 | c1
      · rcases Classical.propComplete (chC d a i) with c4 | c4 <;> simp only [c4, if_true, if_false] at e9 <;> simp (disch := omega) only [aOk, eq_self, tk_sB, pr_sB, tk_wr, pr_wr, nQ_nat, nQ_neg, nQ_add, nQ_mul, nQ_lt, leF, ltT, ltF, rd_sB, rd_sB0, wr_sB, wr_sB0, cn_l, cn_r, Option.toList, List.cons_append, List.nil_append, if_true, if_false, true_and, and_true, or_false, false_or, true_or, or_true, not_false_eq_true, not_true_eq_false, and_false, false_and, zb_0, zb_1, q10, k0, k8, k13, p1, p2, p3, p4, p5, p6, p7, p8, p9, q1, q2, q3, q4, e2, e3, e4, t1, t2, t3, t4, t5, t6, t7, t9, t10, t11, t12, t14, t15, t16, le8 h8, hn, hlt, c1, c4, e9, g13_49, g13_53, g13_54, g13_68, g13_87]
      · rcases Classical.propComplete (d 12 i = z) with c2 | c2
        · have c2' : d 12 i = z := of_eq_true c2
          rcases Classical.propComplete (d 9 i < k) with c3 | c3
          · rcases Classical.propComplete (chC d a i) with c4 | c4 <;> simp only [c4, if_true, if_false] at e9 <;> simp (disch := omega) only [aOk, eq_self, tk_sB, pr_sB, tk_wr, pr_wr, nQ_nat, nQ_neg, nQ_add, nQ_mul, nQ_lt, leF, ltT, ltF, rd_sB, rd_sB0, wr_sB, wr_sB0, cn_l, cn_r, Option.toList, List.cons_append, List.nil_append, if_true, if_false, true_and, and_true, or_false, false_or, true_or, or_true, not_false_eq_true, not_true_eq_false, and_false, false_and, zb_0, zb_1, q10, k0, k8, k13, p1, p2, p3, p4, p5, p6, p7, p8, p9, q1, q2, q3, q4, e2, e3, e4, t1, t2, t3, t4, t5, t6, t7, t9, t10, t11, t12, t14, t15, t16, le8 h8, hn, hlt, c1, c2, c3, c4, e9, g13_49, g13_53, g13_54, g13_68, g13_87]
          · simp (disch := omega) only [aOk, eq_self, tk_sB, pr_sB, tk_wr, pr_wr, nQ_nat, nQ_neg, nQ_add, nQ_mul, nQ_lt, leF, ltT, ltF, rd_sB, rd_sB0, wr_sB, wr_sB0, cn_l, cn_r, Option.toList, List.cons_append, List.nil_append, if_true, if_false, true_and, and_true, or_false, false_or, true_or, or_true, not_false_eq_true, not_true_eq_false, and_false, false_and, zb_0, zb_1, q10, k0, k8, k13, p1, p2, p3, p4, p5, p6, p7, p8, p9, q1, q2, q3, q4, e2, e3, e4, t1, t2, t3, t4, t5, t6, t7, t9, t10, t11, t12, t14, t15, t16, le8 h8, hn, hlt, c1, c2, c3, g13_49, g13_53, g13_54, g13_68, g13_87]
        · simp (disch := omega) only [aOk, eq_self, tk_sB, pr_sB, tk_wr, pr_wr, nQ_nat, nQ_neg, nQ_add, nQ_mul, nQ_lt, leF, ltT, ltF, rd_sB, rd_sB0, wr_sB, wr_sB0, cn_l, cn_r, Option.toList, List.cons_append, List.nil_append, if_true, if_false, true_and, and_true, or_false, false_or, true_or, or_true, not_false_eq_true, not_true_eq_false, and_false, false_and, zb_0, zb_1, q10, k0, k8, k13, p1, p2, p3, p4, p5, p6, p7, p8, p9, q1, q2, q3, q4, e2, e3, e4, t1, t2, t3, t4, t5, t6, t7, t9, t10, t11, t12, t14, t15, t16, le8 h8, hn, hlt, c1, c2, g13_49, g13_53, g13_54, g13_68, g13_87]
  obtain ⟨k, z, y1, y2⟩ := L n 0 (-1) (-1) none (by omega) (Or.inl ⟨rfl, rfl, fun y hy => absurd hy (Nat.not_lt_zero y)⟩)
  exact ⟨k, z, (g13_0).trans y1, y2⟩
end Pa
def SG (p : Nat → Bool) (w : Nat → Int32) : Nat → List Int32
  | 0 => []
  | i + 1 => if p i = true then w i :: SG p w i else SG p w i
theorem SG_s (p : Nat → Bool) (w : Nat → Int32) (i : Nat) : SG p w (i + 1) = if p i = true then w i :: SG p w i else SG p w i := rfl
theorem SG_cg {p p' : Nat → Bool} {w w' : Nat → Int32} : ∀ n, (∀ i, i < n → p i = p' i ∧ (p i = true → w i = w' i)) → SG p w n = SG p' w' n
  | 0, _ => rfl
  | n + 1, h => by
    rw [SG_s, SG_s, SG_cg n (fun i hi => h i (by omega)), ← (h n (by omega)).1]
    split
    · next c => rw [(h n (by omega)).2 c]
    · rfl
theorem SG_mem {p : Nat → Bool} {w : Nat → Int32} {x : Int32} : ∀ {n}, x ∈ SG p w n ↔ ∃ i, i < n ∧ p i = true ∧ w i = x
  | 0 => ⟨fun h => (List.not_mem_nil h).elim, fun ⟨i, hi, _⟩ => absurd hi (Nat.not_lt_zero i)⟩
  | n + 1 => by
    have ih := SG_mem (p := p) (w := w) (x := x) (n := n)
    rw [SG_s]
    constructor
    · intro h
      split at h
      · next c =>
        rcases List.mem_cons.mp h with rfl | h
        · exact ⟨n, by omega, c, rfl⟩
        · obtain ⟨i, h1, h2⟩ := ih.mp h
          exact ⟨i, by omega, h2⟩
      · obtain ⟨i, h1, h2⟩ := ih.mp h
        exact ⟨i, by omega, h2⟩
    · rintro ⟨i, h1, h2, h3⟩
      by_cases e : i = n
      · subst e
        rw [if_pos h2, h3]
        exact List.mem_cons_self
      · have := ih.mpr ⟨i, by omega, h2, h3⟩
        split
        · exact List.mem_cons_of_mem _ this
        · exact this
abbrev nmP (r : Nat → Int32) : Nat → Bool := fun i => decide (¬ r i = -1)
theorem SG_nil {p : Nat → Bool} {w : Nat → Int32} {n i : Nat} (h : SG p w n = []) (hi : i < n) : ¬ p i = true := fun c => by
  have : w i ∈ SG p w n := SG_mem.mpr ⟨i, hi, c, rfl⟩
  rw [h] at this
  exact List.not_mem_nil this
section Qa
variable {τ : Mem}
theorem c103r (t185 : tkM τ 185 = (2, 60)) {cnt : Nat} (h0 : 0 < cnt) (h60 : cnt ≤ 60) (D : Nat → Nat → Int32) : ∃ p, p < cnt ∧ (∀ i, i < cnt → (D 0 i).toInt ≤ (D 0 p).toInt) ∧ DoM 103 [.ref 185, .int (nQ cnt)] (sB 1 τ 185 D) = some (.inl (some (.int (D 0 p))), sB 1 τ 185 (rX D 0 (up (D 0) p (-1)))) := by
  have L : ∀ (m i p : Nat), i + m = cnt → 0 < i → p < i → (∀ y, y < i → (D 0 y).toInt ≤ (D 0 p).toInt) → ∃ p', p' < cnt ∧ (∀ i, i < cnt → (D 0 i).toInt ≤ (D 0 p').toInt) ∧ RuM 103 (4, [some (.ref 185), some (.int (nQ cnt)), some (.int (nQ p)), some (.int (nQ i))], [], 0, 0) (sB 1 τ 185 D) = some (.inl (some (.int (D 0 p'))), sB 1 τ 185 (rX D 0 (up (D 0) p' (-1)))) := by
    intro m
    induction m with
    | zero =>
      intro i p hi h0 hp hm
      obtain rfl : i = cnt := by omega
      refine ⟨p, hp, hm, ?_⟩
      rw [g103_4]
      simp (disch := omega) only [aOk, tk_sB, t185, nQ_lt, nQ_nat, nQ_neg, leF, Nat.lt_irrefl, rd_sB0, wr_sB0, if_true, if_false, true_and, and_true, or_false, false_or, not_false_eq_true, Nat.reduceLeDiff, g103_34]
    | succ m ih =>
      intro i p hi h0 hp hm
      have hlt : i < cnt := by omega
      by_cases c : D 0 p < D 0 i
      · have c' := Int32.lt_iff_toInt_lt.mp c
        obtain ⟨p', y1, y2, y3⟩ := ih (i + 1) i (by omega) (by omega) (by omega) (fun y hy => by
          by_cases e : y = i
          · subst e; exact Int.le_refl _
          · have := hm y (by omega)
            omega)
        refine ⟨p', y1, y2, ?_⟩
        rw [← y3, g103_4]
        simp (disch := omega) only [aOk, tk_sB, t185, nQ_lt, nQ_nat, nQ_neg, nQ_add, leF, hlt, c, rd_sB0, wr_sB0, if_true, if_false, true_and, and_true, or_false, false_or, not_false_eq_true, Nat.reduceLeDiff, g103_20]
      · have c' : ¬ (D 0 p).toInt < (D 0 i).toInt := fun z => c (Int32.lt_iff_toInt_lt.mpr z)
        obtain ⟨p', y1, y2, y3⟩ := ih (i + 1) p (by omega) (by omega) (by omega) (fun y hy => by
          by_cases e : y = i
          · subst e; omega
          · exact hm y (by omega))
        refine ⟨p', y1, y2, ?_⟩
        rw [← y3, g103_4]
        simp (disch := omega) only [aOk, tk_sB, t185, nQ_lt, nQ_nat, nQ_neg, nQ_add, leF, hlt, c, rd_sB0, wr_sB0, if_true, if_false, true_and, and_true, or_false, false_or, not_false_eq_true, Nat.reduceLeDiff, g103_20]
  obtain ⟨p, y1, y2, y3⟩ := L (cnt - 1) 1 0 (by omega) (by omega) (by omega) (fun y hy => by
    obtain rfl : y = 0 := by omega
    exact Int.le_refl _)
  exact ⟨p, y1, y2, (g103_0).trans y3⟩
theorem c11r (hs : ShS τ 9) (t185 : tkM τ 185 = (2, 60)) {n : Nat} (hn : rw_ τ 9 8 0 = nQ n) (h60 : n ≤ 60) (hz : ∀ i, i < n → 0 ≤ (rw_ τ 9 12 i).toInt) (a : Int32) : ∃ D cnt, cnt ≤ n ∧ DoM 11 [.ref 17, .int a, .ref 185] τ = some (.inl (some (.int (nQ cnt))), sB 1 τ 185 D) ∧ (∀ i, i < cnt → 0 ≤ (D 0 i).toInt) ∧ SG (nmP (D 0)) (D 0) cnt = SG (fun i => decide (chC (rw_ τ 9) a i)) (rw_ τ 9 12) n := by
  have L : ∀ (m i c : Nat) (D : Nat → Nat → Int32), i + m = n → c ≤ i → (∀ j, j < c → 0 ≤ (D 0 j).toInt) → SG (nmP (D 0)) (D 0) c = SG (fun i => decide (chC (rw_ τ 9) a i)) (rw_ τ 9 12) i → ∃ D' cnt, cnt ≤ n ∧ RuM 11 (5, [some (.ref 17), some (.int a), some (.ref 185), some (.int (nQ c)), some (.int (nQ i))], [], 0, 0) (sB 1 τ 185 D) = some (.inl (some (.int (nQ cnt))), sB 1 τ 185 D') ∧ (∀ i, i < cnt → 0 ≤ (D' 0 i).toInt) ∧ SG (nmP (D' 0)) (D' 0) cnt = SG (fun i => decide (chC (rw_ τ 9) a i)) (rw_ τ 9 12) n := by
    intro m
    induction m with
    | zero =>
      intro i c D hi hc hD hS
      obtain rfl : i = n := by omega
      refine ⟨D, c, hc, ?_, hD, hS⟩
      have e0 : rdM (sB 1 τ 185 D) 17 0 = nQ i := (rd_out (by omega) 0).trans hn
      have k1 : tkM τ 17 = (1, 1) := hs.2.1.2.1
      rw [g11_5]
      simp (disch := omega) only [tk_sB, k1, e0, nQ_lt, Nat.lt_irrefl, if_true, if_false, g11_49]
    | succ m ih =>
      intro i c D hi hc hD hS
      have hlt : i < n := by omega
      have e0 : rdM (sB 1 τ 185 D) 17 0 = nQ n := (rd_out (by omega) 0).trans hn
      have k1 : tkM τ 17 = (1, 1) := hs.2.1.2.1
      have p4 : prM τ 17 4 = 21 := hs.2.2.2.1.2.2.2
      have k4 : tkM τ 21 = (2, 60) := hs.2.2.2.2.2.2.1.2.2.2
      have e4 : rdM (sB 1 τ 185 D) 21 i = rw_ τ 9 12 i := rd_out (by omega) i
      have e9 := c9 (σ := sB 1 τ 185 D) (d := rw_ (sB 1 τ 185 D) 9) (b := 9) hs (i := i) (by omega) a
      rw [sB_rw] at e9
      have ech : chC (rw_ (sB 1 τ 185 D) 9) a i = chC (rw_ τ 9) a i := by
        show (rdM (sB 1 τ 185 D) (9 + 10) i = a ∨ nQ 6 + rdM (sB 1 τ 185 D) (9 + 11) i = a) = _
        rw [rd_out (by omega), rd_out (by omega)]
        rfl
      have zi := hz i hlt
      rcases Classical.propComplete (chC (rw_ τ 9) a i) with cc | cc
      · simp only [ech, cc, if_true] at e9
        have nm : ¬ rw_ τ 9 12 i = -1 := fun z => by
          rw [z] at zi
          exact absurd zi (by decide)
        obtain ⟨D', cnt, y1, y2, y3⟩ := ih (i + 1) (c + 1) (rX D 0 (up (D 0) c (rw_ τ 9 12 i))) (by omega) (by omega) (fun j hj => by
          rw [rX_s]
          by_cases e : j = c
          · rw [e, up_s]; exact zi
          · rw [up_n e]; exact hD j (by omega)) (by
          rw [rX_s, SG_s, SG_s, if_pos (by rw [decide_eq_true_eq, up_s]; exact nm), if_pos (decide_eq_true (of_eq_true cc)), up_s, ← hS]
          refine congrArg _ (SG_cg c (fun j hj => ?_))
          have : up (D 0) c (rw_ τ 9 12 i) j = D 0 j := up_n (by omega)
          dsimp only [nmP]
          rw [this]
          exact ⟨rfl, fun _ => rfl⟩)
        refine ⟨D', cnt, y1, ?_, y3⟩
        rw [← y2, g11_5]
        simp (disch := omega) only [aOk, tk_sB, pr_sB, k1, p4, k4, t185, e0, e4, e9, hlt, nQ_lt, nQ_nat, nQ_neg, nQ_add, leF, wr_sB0, cn_l, Option.toList, List.nil_append, List.cons_append, if_true, if_false, true_and, and_true, or_false, false_or, not_false_eq_true, q10, Nat.reduceLeDiff, show c < 60 by omega, g11_27, g11_40, g11_43]
      · simp only [ech, cc, if_false] at e9
        obtain ⟨D', cnt, y1, y2, y3⟩ := ih (i + 1) c D (by omega) (by omega) hD (by
          rw [SG_s, if_neg (by rw [decide_eq_true_eq]; exact of_eq_false cc)]
          exact hS)
        refine ⟨D', cnt, y1, ?_, y3⟩
        rw [← y2, g11_5]
        simp (disch := omega) only [aOk, tk_sB, pr_sB, k1, p4, k4, t185, e0, e4, e9, hlt, nQ_lt, nQ_nat, nQ_neg, nQ_add, leF, cn_l, Option.toList, List.nil_append, List.cons_append, if_true, if_false, true_and, and_true, or_false, false_or, not_false_eq_true, show c < 60 by omega, g11_27, g11_43]
  obtain ⟨D, cnt, y1, y2, y3⟩ := L n 0 0 (rw_ τ 185) (by omega) (Nat.le_refl 0) (fun j hj => absurd hj (Nat.not_lt_zero j)) rfl
  rw [sB_rw] at y2
  exact ⟨D, cnt, y1, (g11_0).trans y2, y3⟩
end Qa
section Rz
variable {τ : Mem} {f : Nat → Int32} {H : Nat → Nat → Int32} {c n : Nat}
theorem us_0 {f : Nat → Int32} {a : Int32} {r : Nat} : ∀ n, (∀ i, i < n → ¬ (f (5 + 4 * i + 1) = a ∨ nQ 6 + f (5 + 4 * i + 2) = a)) → usF f a r n = nQ 0
  | 0, _ => rfl
  | n + 1, h => by
    rw [usF_s, if_neg (h n (Nat.lt_succ_self n)), us_0 n (fun i hi => h i (Nat.lt_succ_of_lt hi))]
    rfl
theorem sz_0 (h : RV τ f H c) (hn : f 4 = nQ n) (h60 : n ≤ 60) : ∀ i, i < n → 0 ≤ (rw_ τ 9 12 i).toInt := by
  obtain ⟨hR, hF, hI⟩ := RV_n h hn h60
  intro i hi
  obtain ⟨j, hj, e⟩ := fl_to hF hi
  obtain ⟨-, -, zi, -, -, hi5, -, -, ei⟩ := hI.1.1 j hj
  have : rw_ τ 9 12 i = nQ zi := (congrArg (·.2.2.2) e).symm.trans ei
  rw [this, nQ_int (by omega)]
  omega
theorem q75 (h : RV τ f H c) (hn : f 4 = nQ n) (h60 : n ≤ 60) {a : Nat} (ha : a ≤ 8) : ∃ k, DoM 75 [.ref 8, .int (nQ a)] τ = some (.inl (some (.int k)), τ) ∧ ((k = -1 ∧ ∀ j, j < n → ¬ (f (5 + 4 * j + 1) = nQ a ∨ nQ 6 + f (5 + 4 * j + 2) = nQ a)) ∨ ∃ j, j < n ∧ (f (5 + 4 * j + 1) = nQ a ∨ nQ 6 + f (5 + 4 * j + 2) = nQ a) ∧ k = f (5 + 4 * j)) := by
  obtain ⟨hR, hF, hI⟩ := RV_n h hn h60
  have w1 : tkM τ 8 = (1, 4) := h.1.1.1.1
  have w2 : prM τ 8 0 = 9 := h.1.1.1.2.1
  have hs : ShS τ 9 := h.1.1.2.1.1
  have hx : inP (nQ a) (nQ 0) (nQ 8) := in_Q ha (by decide)
  obtain ⟨k, z, e13, hB⟩ := c13 (d := rw_ τ 9) hs hF.1 hF.2.2.1 (sz_0 h hn h60) (nQ a)
  rw [sB_rw] at e13
  refine ⟨k, ?_, ?_⟩
  · refine (g75_0).trans ?_
    simp (disch := omega) only [aOk, eq_self, tk_sB, pr_sB, tk_wr, pr_wr, nQ_nat, nQ_neg, nQ_add, nQ_mul, nQ_lt, leF, ltT, ltF, rd_sB, rd_sB0, wr_sB, wr_sB0, cn_l, cn_r, Option.toList, List.cons_append, List.nil_append, if_true, if_false, true_and, and_true, or_false, false_or, true_or, or_true, not_false_eq_true, not_true_eq_false, and_false, false_and, zb_0, zb_1, q10, w1, w2, hs.2.1.1, hs.2.1.2.1, hs.2.1.2.2, hs.2.2.1.1, hs.2.2.1.2.1, hs.2.2.1.2.2.1, hs.2.2.1.2.2.2.1, hs.2.2.1.2.2.2.2.1, hs.2.2.1.2.2.2.2.2.1, hs.2.2.1.2.2.2.2.2.2.1, hs.2.2.1.2.2.2.2.2.2.2.1, hs.2.2.1.2.2.2.2.2.2.2.2, hs.2.2.2.1.1, hs.2.2.2.1.2.1, hs.2.2.2.1.2.2.1, hs.2.2.2.1.2.2.2, hs.2.2.2.2.1.1, hs.2.2.2.2.1.2.1, hs.2.2.2.2.1.2.2, hs.2.2.2.2.2.1.1, hs.2.2.2.2.2.1.2.1, hs.2.2.2.2.2.1.2.2.1, hs.2.2.2.2.2.1.2.2.2.1, hs.2.2.2.2.2.1.2.2.2.2.1, hs.2.2.2.2.2.1.2.2.2.2.2.1, hs.2.2.2.2.2.1.2.2.2.2.2.2, hs.2.2.2.2.2.2.1.1, hs.2.2.2.2.2.2.1.2.1, hs.2.2.2.2.2.2.1.2.2.1, hs.2.2.2.2.2.2.1.2.2.2, hs.2.2.2.2.2.2.2.1, hs.2.2.2.2.2.2.2.2.1, hs.2.2.2.2.2.2.2.2.2, le8 hs.1, c89, eq_true hx, e13, g75_4, g75_15]
  · rcases hB with ⟨rfl, -, h3⟩ | ⟨i, h1, h2, rfl, -⟩
    · refine Or.inl ⟨rfl, fun j hj hc => ?_⟩
      obtain ⟨i, hi, e⟩ := fl_fro hF hj
      refine h3 i hi ?_
      rw [e]
      exact hc
    · obtain ⟨j, hj, e⟩ := fl_to hF h1
      rw [← e] at h2 ⊢
      exact Or.inr ⟨j, hj, h2, rfl⟩
theorem few_z (w1 : tkM τ 8 = (1, 4)) (w7 : prM τ 8 7 = 185) (t185 : tkM τ 185 = (2, 60)) {cnt : Nat} (h60 : cnt ≤ 60) (a b s : Int32) : ∀ (m i6 : Nat) (D : Nat → Nat → Int32) (x : Int32), i6 + m = cnt → ∃ k D', k ≤ m ∧ (k = 0 ↔ ¬ (s < x ∧ i6 < cnt)) ∧ RuM 69 (57, [some (.ref 8), some (.int a), some (.int b), some (.int s), some (.int (nQ cnt)), some (.int x), some (.int (nQ i6))], [], 0, 0) (sB 1 τ 185 D) = some (.inl (some (.int (nQ (i6 + k)))), sB 1 τ 185 D') := by
  intro m
  induction m with
  | zero =>
    intro i6 D x e
    refine ⟨0, D, Nat.le_refl _, ⟨fun _ z => by omega, fun _ => rfl⟩, ?_⟩
    rw [g69_57]
    have e2 : (nQ i6 < nQ cnt) = False := by rw [nQ_lt (by omega) (by omega)]; exact eq_false (by omega)
    by_cases cx : s < x
    · simp only [cx, e2, if_true, if_false, g69_90, Nat.add_zero]
    · simp only [cx, if_false, g69_90, Nat.add_zero]
  | succ m ih =>
    intro i6 D x e
    by_cases cx : s < x
    · obtain ⟨p, q1, q2, q3⟩ := c103r (τ := τ) t185 (cnt := cnt) (by omega) h60 D
      obtain ⟨k, D', z1, -, z3⟩ := ih (i6 + 1) (rX D 0 (up (D 0) p (-1))) (x - D 0 p) (by omega)
      refine ⟨k + 1, D', by omega, ⟨fun z => by omega, fun z => absurd ⟨cx, by omega⟩ z⟩, ?_⟩
      rw [show i6 + (k + 1) = i6 + 1 + k by omega, ← z3, g69_57]
      simp (disch := omega) only [cx, nQ_lt, show i6 < cnt by omega, tk_sB, pr_sB, w1, w7, q3, nQ_add, cn_l, Option.toList, List.nil_append, List.cons_append, if_true, g69_81]
    · refine ⟨0, D, Nat.zero_le _, ⟨fun _ z => cx z.1, fun _ => rfl⟩, ?_⟩
      rw [g69_57]
      simp only [cx, if_false, g69_90, Nat.add_zero]
theorem q69 (h : RV τ f H c) (hn : f 4 = nQ n) (h60 : n ≤ 60) {a : Nat} (ha : a ≤ 8) : ∃ k D, DoM 69 [.ref 8, .int (nQ a)] τ = some (.inl (some (.int (nQ k))), sB 1 τ 185 D) ∧ k ≤ 60 ∧ (k = 0 ↔ ¬ (¬ f (245 + 2 * a) = nQ 0 ∧ f (245 + 2 * a) < usF f (nQ a) 0 n)) := by
  obtain ⟨hR, hF, hI⟩ := RV_n h hn h60
  have w1 : tkM τ 8 = (1, 4) := h.1.1.1.1
  have w2 : prM τ 8 0 = 9 := h.1.1.1.2.1
  have hs : ShS τ 9 := h.1.1.2.1.1
  have w7 : prM τ 8 7 = 185 := h.1.1.1.2.2.2.2.2.2.2
  have t185 : tkM τ 185 = (2, 60) := h.1.1.2.2.2.2.2.2.2.2.2.2
  have hx : inP (nQ a) (nQ 0) (nQ 8) := in_Q ha (by decide)
  obtain ⟨s, s', hs1, -, es, -⟩ := hI.1.2.2.2 (2 * a) (by omega)
  have r4 : rdM τ 13 (2 * a) = nQ s := ((hR.2.1 (2 * a) (by omega)).2.1).trans es
  have c98' : ∀ σ' : Mem, DoM 98 [.int (nQ a), .int (nQ 0)] σ' = some (.inl (some (.int (nQ (2 * a)))), σ') := fun σ' => c98 a 0
  have p4 : prM τ 9 4 = 13 := hs.2.2.1.2.2.2.1
  have p3 : prM τ 9 3 = 12 := hs.2.2.1.2.2.1
  have p8 : prM τ 9 8 = 17 := hs.2.2.1.2.2.2.2.2.2.2.1
  have k0 : tkM τ 9 = (1, 2) := hs.2.1.1
  have k8 : tkM τ 17 = (1, 1) := hs.2.1.2.1
  have t4 : tkM τ 13 = (2, 18) := hs.2.2.2.2.2.1.2.2.2.1
  have t3 : tkM τ 12 = (2, 18) := hs.2.2.2.2.2.1.2.2.1
  rw [es]
  by_cases s0 : s = 0
  · subst s0
    refine ⟨0, rw_ τ 185, ?_, by decide, ⟨fun _ z => z.1 rfl, fun _ => rfl⟩⟩
    rw [sB_rw]
    refine (g69_0).trans ?_
    simp (disch := omega) only [c89, eq_true hx, c98', w1, w2, k0, p4, t4, r4, aOk, nQ_nat, nQ_neg, leF, cn_l, Option.toList, List.nil_append, List.cons_append, if_true, if_false, true_and, and_true, or_false, false_or, not_false_eq_true, g69_4, g69_9]
  · have s0' : (nQ s = nQ 0) = False := by rw [nQ_eq (by omega) (by decide)]; exact eq_false s0
    obtain ⟨D, cnt, hc1, hc2, hc3, hc4⟩ := c11r (τ := τ) hs t185 (n := n) hF.1 h60 (sz_0 h hn h60) (nQ a)
    have r3 : rdM (sB 1 τ 185 D) 12 (2 * a) = usF f (nQ a) 0 n := by
      rw [rd_out (by omega)]
      refine ((hR.2.1 (2 * a) (by omega)).1).trans ?_
      show usF f (nQ (2 * a / 2)) (2 * a - 2 * a / 2 * 2) n = _
      rw [show 2 * a / 2 = a by omega, show 2 * a - a * 2 = 0 by omega]
    obtain ⟨k, D', z1, z2, z3⟩ := few_z (τ := τ) w1 w7 t185 (cnt := cnt) (by omega) (nQ a) (nQ (2 * a)) (nQ s) cnt 0 D (usF f (nQ a) 0 n) (by omega)
    refine ⟨k, D', ?_, by omega, z2.trans (not_congr ⟨fun q => ⟨by rw [s0']; exact fun z => z, q.1⟩, fun q => ⟨q.2, ?_⟩⟩)⟩
    · rw [Nat.zero_add] at z3
      rw [← z3]
      refine (g69_0).trans ?_
      simp (disch := omega) only [c89, eq_true hx, c98', w1, w2, w7, k0, k8, p4, p3, p8, t4, t3, r4, r3, s0', hc2, tk_sB, pr_sB, aOk, nQ_nat, nQ_neg, leF, cn_l, Option.toList, List.nil_append, List.cons_append, if_true, if_false, true_and, and_true, or_false, false_or, not_false_eq_true, g69_4, g69_9, g69_41]
    · refine Nat.pos_of_ne_zero fun z => ?_
      subst z
      have q2 := q.2
      rw [us_0 n (fun j hj hc => ?_), nQ_lt (by omega) (by decide)] at q2
      · omega
      · obtain ⟨i, hi, e⟩ := fl_fro hF hj
        refine SG_nil (hc4.symm.trans rfl) hi (decide_eq_true ?_)
        show (qC (rw_ τ 9) i).2.1 = nQ a ∨ nQ 6 + (qC (rw_ τ 9) i).2.2.1 = nQ a
        rw [e]
        exact hc
end Rz
