/-! The class's reader of texts. -/
def ShT (σ : Mem) (b : Nat) : Prop := 8 ≤ b ∧ tkM σ b = (1, 3) ∧ prM σ b 0 = b + 1 ∧ prM σ b 4 = b + 2 ∧ tkM σ (b + 1) = (4, 100) ∧ tkM σ (b + 2) = (2, 5)
def TxC (d : Nat → Nat → Int32) (t : Nat → Nat) (L : Nat) : Prop := d 0 1 = nQ L ∧ L ≤ 100 ∧ ∀ i, i < L → d 1 i = nQ (t i) ∧ 32 ≤ t i ∧ t i ≤ 126
abbrev acF (d : Nat → Nat → Int32) (q : Nat) : Nat → Nat → Int32 := rX d 0 (up (d 0) 2 (nQ q))
theorem ac_i {d : Nat → Nat → Int32} {p : Nat} (h : d 0 2 = nQ p) : acF d p = d := by
  unfold acF
  rw [← h, up_i, rX_i]
theorem ac_ac (d : Nat → Nat → Int32) (p q : Nat) : acF (acF d p) q = acF d q := by
  unfold acF
  rw [rX_s, rX_r, up_up]
theorem sgC_le {d : Nat → Nat → Int32} {t : Nat → Nat} {L : Nat} (h : TxC d t L) (p : Nat) : sgN t L p ≤ 126 := by
  unfold sgN
  split
  · next c => exact (h.2.2 p c).2.2
  · decide
def rfN (l : Nat) : Nat := if l = 99 then 2 else if l = 100 then 4 else if l = 109 then 5 else if l = 110 then 6 else if l = 114 then 3 else 7
def StR (σ : Mem) : Prop := ∀ l, tkM σ (rfN l) = (2, (gtL l).length) ∧ ∀ j, j < (gtL l).length → rdM σ (rfN l) j = nQ ((gtL l).getD j 0)
theorem rf_lt (l : Nat) : rfN l < 8 := by
  unfold rfN
  repeat' split
  all_goals omega
section Cz
variable {σ : Mem} {b : Nat} {d : Nat → Nat → Int32} {t : Nat → Nat} {L : Nat}
theorem c43 (h : ShT σ b) (hT : TxC d t L) {p : Nat} (hp : d 0 2 = nQ p) (hpL : p ≤ 100) : DoM 43 [.ref b] (sB 3 σ b d) = some (.inl (some (.int (if 48 ≤ sgN t L p ∧ sgN t L p ≤ 57 then nQ (sgN t L p - 48) else -1))), sB 3 σ b d) := by
  obtain ⟨h8, h0, p0, p4, t1, t2⟩ := id h
  obtain ⟨hL, h100, hc⟩ := hT
  refine (g43_0).trans ?_
  unfold sgN
  by_cases c : p < L
  · obtain ⟨e1, e2, e3⟩ := hc p c
    rw [if_pos c]
    by_cases c1 : 48 ≤ t p
    · by_cases c2 : t p ≤ 57
      · simp (disch := omega) only [aOk, eq_self, tk_sB, pr_sB, tk_wr, pr_wr, nQ_nat, nQ_neg, nQ_add, nQ_mul, nQ_lt, leF, ltT, ltF, rd_sB, rd_sB0, wr_sB, wr_sB0, cn_l, cn_r, Option.toList, List.cons_append, List.nil_append, if_true, if_false, true_and, and_true, or_false, false_or, true_or, or_true, not_false_eq_true, not_true_eq_false, and_false, false_and, zb_0, zb_1, q10, h0, p0, t1, hL, hp, e1, c, c1, c2, nQ_sub, g43_43]
      · simp (disch := omega) only [aOk, eq_self, tk_sB, pr_sB, tk_wr, pr_wr, nQ_nat, nQ_neg, nQ_add, nQ_mul, nQ_lt, leF, ltT, ltF, rd_sB, rd_sB0, wr_sB, wr_sB0, cn_l, cn_r, Option.toList, List.cons_append, List.nil_append, if_true, if_false, true_and, and_true, or_false, false_or, true_or, or_true, not_false_eq_true, not_true_eq_false, and_false, false_and, zb_0, zb_1, q10, h0, p0, t1, hL, hp, e1, c, c1, c2, nQ_sub, g43_42, g43_43]
    · simp (disch := omega) only [aOk, eq_self, tk_sB, pr_sB, tk_wr, pr_wr, nQ_nat, nQ_neg, nQ_add, nQ_mul, nQ_lt, leF, ltT, ltF, rd_sB, rd_sB0, wr_sB, wr_sB0, cn_l, cn_r, Option.toList, List.cons_append, List.nil_append, if_true, if_false, true_and, and_true, or_false, false_or, true_or, or_true, not_false_eq_true, not_true_eq_false, and_false, false_and, zb_0, zb_1, q10, h0, p0, t1, hL, hp, e1, c, c1, g43_42, g43_43]
  · rw [if_neg c]
    simp (disch := omega) only [aOk, eq_self, tk_sB, pr_sB, tk_wr, pr_wr, nQ_nat, nQ_neg, nQ_add, nQ_mul, nQ_lt, leF, ltT, ltF, rd_sB, rd_sB0, wr_sB, wr_sB0, cn_l, cn_r, Option.toList, List.cons_append, List.nil_append, if_true, if_false, true_and, and_true, or_false, false_or, true_or, or_true, not_false_eq_true, not_true_eq_false, and_false, false_and, zb_0, zb_1, q10, h0, p0, t1, hL, hp, c]
theorem c40 (h : ShT σ b) (hT : TxC d t L) {p : Nat} (hp : d 0 2 = nQ p) (hpL : p ≤ 100) {c : Nat} (hc : c ≤ 200) (hc1 : 0 < c) : DoM 40 [.ref b, .int (nQ c)] (sB 3 σ b d) = some (.inl (some (.int (if sgN t L p = c then nQ 1 else nQ 0))), sB 3 σ b (acF d (if sgN t L p = c then p + 1 else p))) := by
  obtain ⟨h8, h0, p0, p4, t1, t2⟩ := id h
  obtain ⟨hL, h100, hch⟩ := hT
  have ei := ac_i hp
  refine (g40_0).trans ?_
  unfold sgN
  by_cases c0 : p < L
  · obtain ⟨e1, e2, e3⟩ := hch p c0
    have e' : (nQ (t p) = nQ c) = (t p = c) := nQ_eq (by omega) (by omega)
    rw [if_pos c0]
    rcases Classical.propComplete (t p = c) with c1 | c1 <;> simp (disch := omega) only [aOk, eq_self, tk_sB, pr_sB, tk_wr, pr_wr, nQ_nat, nQ_neg, nQ_add, nQ_mul, nQ_lt, leF, ltT, ltF, rd_sB, rd_sB0, wr_sB, wr_sB0, cn_l, cn_r, Option.toList, List.cons_append, List.nil_append, if_true, if_false, true_and, and_true, or_false, false_or, true_or, or_true, not_false_eq_true, not_true_eq_false, and_false, false_and, zb_0, zb_1, q10, h0, p0, t1, hL, hp, e1, e', c0, c1, ei, g40_24, g40_36]
  · rw [if_neg c0]
    have c1 : ¬ 0 = c := by omega
    simp (disch := omega) only [aOk, eq_self, tk_sB, pr_sB, tk_wr, pr_wr, nQ_nat, nQ_neg, nQ_add, nQ_mul, nQ_lt, leF, ltT, ltF, rd_sB, rd_sB0, wr_sB, wr_sB0, cn_l, cn_r, Option.toList, List.cons_append, List.nil_append, if_true, if_false, true_and, and_true, or_false, false_or, true_or, or_true, not_false_eq_true, not_true_eq_false, and_false, false_and, zb_0, zb_1, q10, h0, p0, t1, hL, hp, c0, c1, ei, g40_24, g40_36]
theorem c42 (h : ShT σ b) (hT : TxC d t L) {p : Nat} (hp : d 0 2 = nQ p) (hpL : p ≤ 100) {v w : Nat} (hv : v ≤ 5000) (hw : w ≤ 5000) (hs : 48 ≤ sgN t L p ∧ sgN t L p ≤ 57) : DoM 42 [.ref b, .int (nQ v), .int (nQ w)] (sB 3 σ b d) = some (.inl (some (.int (if 0 < v ∧ 10 * v + (sgN t L p - 48) ≤ w then nQ 1 else nQ 0))), sB 3 σ b d) := by
  have h0 := h.2.1
  have e := c43 h hT hp hpL
  rw [if_pos hs] at e
  have em : v * 10 = 10 * v := Nat.mul_comm _ _
  refine (g42_0).trans ?_
  generalize sgN t L p = s at *
  have ev : (nQ v = nQ 0) = (v = 0) := nQ_eq (by omega) (by decide)
  have el : (nQ w < nQ (10 * v + (s - 48))) = (w < 10 * v + (s - 48)) := nQ_lt (by omega) (by omega)
  rcases Classical.propComplete (v = 0) with c1 | c1
  · have c2 : ¬ (0 < v ∧ 10 * v + (s - 48) ≤ w) := fun z => by have := of_eq_true c1; omega
    simp (disch := omega) only [aOk, eq_self, tk_sB, pr_sB, tk_wr, pr_wr, nQ_nat, nQ_neg, nQ_add, nQ_mul, nQ_lt, leF, ltT, ltF, rd_sB, rd_sB0, wr_sB, wr_sB0, cn_l, cn_r, Option.toList, List.cons_append, List.nil_append, if_true, if_false, true_and, and_true, or_false, false_or, true_or, or_true, not_false_eq_true, not_true_eq_false, and_false, false_and, zb_0, zb_1, q10, h0, ev, c1, c2, g42_12, g42_21, g42_22]
  · have c1' : 0 < v := by have := of_eq_false c1; omega
    rcases Classical.propComplete (w < 10 * v + (s - 48)) with c2 | c2
    · have c3 : ¬ (0 < v ∧ 10 * v + (s - 48) ≤ w) := fun z => by have := of_eq_true c2; omega
      rw [if_neg c3]
      simp (disch := omega) only [aOk, eq_self, tk_sB, pr_sB, tk_wr, pr_wr, nQ_nat, nQ_neg, nQ_add, nQ_mul, nQ_lt, leF, ltT, ltF, rd_sB, rd_sB0, wr_sB, wr_sB0, cn_l, cn_r, Option.toList, List.cons_append, List.nil_append, if_true, if_false, true_and, and_true, or_false, false_or, true_or, or_true, not_false_eq_true, not_true_eq_false, and_false, false_and, zb_0, zb_1, q10, h0, ev, c1, e, em, el, c2, g42_12, g42_21, g42_22]
    · have c3 : 0 < v ∧ 10 * v + (s - 48) ≤ w := ⟨c1', by have := of_eq_false c2; omega⟩
      rw [if_pos c3]
      simp (disch := omega) only [aOk, eq_self, tk_sB, pr_sB, tk_wr, pr_wr, nQ_nat, nQ_neg, nQ_add, nQ_mul, nQ_lt, leF, ltT, ltF, rd_sB, rd_sB0, wr_sB, wr_sB0, cn_l, cn_r, Option.toList, List.cons_append, List.nil_append, if_true, if_false, true_and, and_true, or_false, false_or, true_or, or_true, not_false_eq_true, not_true_eq_false, and_false, false_and, zb_0, zb_1, q10, h0, ev, c1, e, em, el, c2, g42_12, g42_21, g42_22]
theorem c41 (h : ShT σ b) (hT : TxC d t L) {p : Nat} (hp : d 0 2 = nQ p) (hpL : p ≤ 100) {ls w : Nat} (hls : ls ≤ 1) (hw : w ≤ 5000) : DoM 41 [.ref b, .int (nQ ls), .int (nQ w)] (sB 3 σ b d) = match nuN t L ls w p with
    | none => some (.inl (some (.int (-1))), sB 3 σ b d)
    | some (q, v) => some (.inl (some (.int (nQ v))), sB 3 σ b (acF d q)) := by
  have h0 := h.2.1
  have L1 : ∀ (m p v : Nat) (d : Nat → Nat → Int32), TxC d t L → d 0 2 = nQ p → p ≤ 100 → 100 ≤ p + m → v ≤ w → RuM 41 (27, [some (.ref b), some (.int (nQ ls)), some (.int (nQ w)), some (.int (nQ v))], [], 0, 0) (sB 3 σ b d) = some (.inl (some (.int (nQ (nuL t L w m p v).2))), sB 3 σ b (acF d (nuL t L w m p v).1)) := by
    intro m
    induction m with
    | zero =>
      intro p v d hT hp hpL hm hv
      have h100 := hT.2.1
      have hL := hT.1
      rw [g41_27]
      unfold nuL
      rw [ac_i hp]
      simp (disch := omega) only [aOk, eq_self, tk_sB, pr_sB, tk_wr, pr_wr, nQ_nat, nQ_neg, nQ_add, nQ_mul, nQ_lt, leF, ltT, ltF, rd_sB, rd_sB0, wr_sB, wr_sB0, cn_l, cn_r, Option.toList, List.cons_append, List.nil_append, if_true, if_false, true_and, and_true, or_false, false_or, true_or, or_true, not_false_eq_true, not_true_eq_false, and_false, false_and, zb_0, zb_1, q10, h0, hp, hL, g41_78]
    | succ m ih =>
      intro p v d hT hp hpL hm hv
      have hs := sgC_le hT p
      have e := c43 h hT hp hpL
      have hlt := sg_lt (t := t) (L := L) (p := p)
      have h100 := hT.2.1
      have hL := hT.1
      rw [g41_27]
      unfold nuL
      by_cases cp : p < L
      · by_cases c2 : 48 ≤ sgN t L p ∧ sgN t L p ≤ 57
        · rw [if_pos c2] at e
          have e42 := c42 h hT hp hpL (v := v) (w := w) (by omega) hw c2
          have ej := nQ_m1 (i := sgN t L p - 48) (by omega)
          by_cases c4 : 0 < v ∧ 10 * v + (sgN t L p - 48) ≤ w
          · rw [if_pos c4] at e42
            rw [if_pos (show 0 < v ∧ (48 ≤ sgN t L p ∧ sgN t L p ≤ 57) ∧ 10 * v + (sgN t L p - 48) ≤ w from ⟨c4.1, c2, c4.2⟩)]
            have em : v * 10 = 10 * v := Nat.mul_comm _ _
            have := ih (p + 1) (10 * v + (sgN t L p - 48)) (acF d (p + 1)) hT rfl (by omega) (by omega) c4.2
            rw [ac_ac] at this
            rw [← this]
            simp (disch := omega) only [aOk, eq_self, tk_sB, pr_sB, tk_wr, pr_wr, nQ_nat, nQ_neg, nQ_add, nQ_mul, nQ_lt, leF, ltT, ltF, rd_sB, rd_sB0, wr_sB, wr_sB0, cn_l, cn_r, Option.toList, List.cons_append, List.nil_append, if_true, if_false, true_and, and_true, or_false, false_or, true_or, or_true, not_false_eq_true, not_true_eq_false, and_false, false_and, zb_0, zb_1, q10, h0, hp, hL, cp, e, e42, ej, em, q10, g41_42, g41_52, g41_63, g41_75]
          · rw [if_neg c4] at e42
            rw [if_neg (fun z : 0 < v ∧ (48 ≤ sgN t L p ∧ sgN t L p ≤ 57) ∧ 10 * v + (sgN t L p - 48) ≤ w => c4 ⟨z.1, z.2.2⟩), ac_i hp]
            simp (disch := omega) only [aOk, eq_self, tk_sB, pr_sB, tk_wr, pr_wr, nQ_nat, nQ_neg, nQ_add, nQ_mul, nQ_lt, leF, ltT, ltF, rd_sB, rd_sB0, wr_sB, wr_sB0, cn_l, cn_r, Option.toList, List.cons_append, List.nil_append, if_true, if_false, true_and, and_true, or_false, false_or, true_or, or_true, not_false_eq_true, not_true_eq_false, and_false, false_and, zb_0, zb_1, q10, h0, hp, hL, cp, e, e42, ej, g41_42, g41_52, g41_78]
        · rw [if_neg c2] at e
          rw [if_neg (fun z : 0 < v ∧ (48 ≤ sgN t L p ∧ sgN t L p ≤ 57) ∧ 10 * v + (sgN t L p - 48) ≤ w => c2 z.2.1), ac_i hp]
          simp (disch := omega) only [aOk, eq_self, tk_sB, pr_sB, tk_wr, pr_wr, nQ_nat, nQ_neg, nQ_add, nQ_mul, nQ_lt, leF, ltT, ltF, rd_sB, rd_sB0, wr_sB, wr_sB0, cn_l, cn_r, Option.toList, List.cons_append, List.nil_append, if_true, if_false, true_and, and_true, or_false, false_or, true_or, or_true, not_false_eq_true, not_true_eq_false, and_false, false_and, zb_0, zb_1, q10, h0, hp, hL, cp, e, g41_42, g41_78]
      · have c2 : ¬ (48 ≤ sgN t L p ∧ sgN t L p ≤ 57) := fun z => cp (hlt (by omega))
        rw [if_neg (fun z : 0 < v ∧ (48 ≤ sgN t L p ∧ sgN t L p ≤ 57) ∧ 10 * v + (sgN t L p - 48) ≤ w => c2 z.2.1), ac_i hp]
        simp (disch := omega) only [aOk, eq_self, tk_sB, pr_sB, tk_wr, pr_wr, nQ_nat, nQ_neg, nQ_add, nQ_mul, nQ_lt, leF, ltT, ltF, rd_sB, rd_sB0, wr_sB, wr_sB0, cn_l, cn_r, Option.toList, List.cons_append, List.nil_append, if_true, if_false, true_and, and_true, or_false, false_or, true_or, or_true, not_false_eq_true, not_true_eq_false, and_false, false_and, zb_0, zb_1, q10, h0, hp, hL, cp, g41_78]
  have hs := sgC_le hT p
  have e := c43 h hT hp hpL
  have hlt := sg_lt (t := t) (L := L) (p := p)
  have h100 := hT.2.1
  refine (g41_0).trans ?_
  unfold nuN
  by_cases c2 : 48 ≤ sgN t L p ∧ sgN t L p ≤ 57
  · rw [if_pos c2] at e
    by_cases c3 : 48 + ls ≤ sgN t L p
    · have i1 : (nQ (sgN t L p - 48) < nQ ls) = False := by rw [nQ_lt (by omega) (by omega)]; exact eq_false (by omega)
      by_cases c4 : sgN t L p - 48 ≤ w
      · have i2 : (nQ w < nQ (sgN t L p - 48)) = False := by rw [nQ_lt (by omega) (by omega)]; exact eq_false (by omega)
        rw [if_pos (show (48 + ls ≤ sgN t L p ∧ sgN t L p ≤ 57) ∧ sgN t L p - 48 ≤ w from ⟨⟨c3, c2.2⟩, c4⟩)]
        have := L1 (100 - p) (p + 1) (sgN t L p - 48) (acF d (p + 1)) hT rfl (by omega) (by omega) c4
        rw [ac_ac] at this
        dsimp only
        rw [← this]
        simp (disch := omega) only [aOk, tk_sB, pr_sB, cn_l, Option.toList, List.cons_append, List.nil_append, if_true, if_false, rd_sB0, wr_sB0, nQ_add, h0, e, hp, i1, i2, g41_4]
      · have i2 : (nQ w < nQ (sgN t L p - 48)) = True := by rw [nQ_lt (by omega) (by omega)]; exact eq_true (by omega)
        rw [if_neg (fun z : (48 + ls ≤ sgN t L p ∧ sgN t L p ≤ 57) ∧ sgN t L p - 48 ≤ w => c4 z.2)]
        simp (disch := omega) only [aOk, tk_sB, pr_sB, cn_l, Option.toList, List.cons_append, List.nil_append, if_true, if_false, h0, e, hp, i1, i2, g41_4, g41_15]
    · have i1 : (nQ (sgN t L p - 48) < nQ ls) = True := by rw [nQ_lt (by omega) (by omega)]; exact eq_true (by omega)
      rw [if_neg (fun z : (48 + ls ≤ sgN t L p ∧ sgN t L p ≤ 57) ∧ sgN t L p - 48 ≤ w => c3 z.1.1)]
      simp (disch := omega) only [aOk, tk_sB, pr_sB, cn_l, Option.toList, List.cons_append, List.nil_append, if_true, if_false, h0, e, hp, i1, g41_4, g41_15]
  · rw [if_neg c2] at e
    have i1 : ((-1 : Int32) < nQ ls) = True := by
      rcases (show ls = 0 ∨ ls = 1 by omega) with rfl | rfl <;> decide
    rw [if_neg (fun z : (48 + ls ≤ sgN t L p ∧ sgN t L p ≤ 57) ∧ sgN t L p - 48 ≤ w => c2 ⟨by omega, z.1.2⟩)]
    simp (disch := omega) only [aOk, tk_sB, pr_sB, cn_l, Option.toList, List.cons_append, List.nil_append, if_true, if_false, h0, e, hp, i1, g41_4, g41_15]
theorem c39 {σ : Mem} {l : Nat} (hl : l ≤ 200) : DoM 39 [.int (nQ l)] σ = some (.inl (some (.ref (rfN l))), σ) := by
  have e : ∀ c, c ≤ 200 → (nQ l = nQ c) = (l = c) := fun c hc => nQ_eq (by omega) (by omega)
  refine (g39_0).trans ?_
  rw [show (if nQ l = nQ 99 then some (Sum.inl (some (Value.ref 2)), σ) else if nQ l = nQ 100 then some (Sum.inl (some (Value.ref 4)), σ) else if nQ l = nQ 109 then some (Sum.inl (some (Value.ref 5)), σ) else if nQ l = nQ 110 then some (Sum.inl (some (Value.ref 6)), σ) else if nQ l = nQ 114 then some (Sum.inl (some (Value.ref 3)), σ) else some (Sum.inl (some (Value.ref 7)), σ) : Option OutM) = if l = 99 then some (Sum.inl (some (Value.ref 2)), σ) else if l = 100 then some (Sum.inl (some (Value.ref 4)), σ) else if l = 109 then some (Sum.inl (some (Value.ref 5)), σ) else if l = 110 then some (Sum.inl (some (Value.ref 6)), σ) else if l = 114 then some (Sum.inl (some (Value.ref 3)), σ) else some (Sum.inl (some (Value.ref 7)), σ) by simp only [e 99 (by decide), e 100 (by decide), e 109 (by decide), e 110 (by decide), e 114 (by decide)]]
  unfold rfN
  by_cases h1 : l = 99
  · simp only [h1, if_true]
  by_cases h2 : l = 100
  · simp only [h1, h2, if_true, if_false]; rfl
  by_cases h3 : l = 109
  · simp only [h1, h2, h3, if_true, if_false]; rfl
  by_cases h4 : l = 110
  · simp only [h1, h2, h3, h4, if_true, if_false]; rfl
  by_cases h5 : l = 114
  · simp only [h1, h2, h3, h4, h5, if_true, if_false]; rfl
  simp only [h1, h2, h3, h4, h5, if_false]
end Cz
