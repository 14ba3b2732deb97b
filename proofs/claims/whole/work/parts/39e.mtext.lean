/-! Texts: what both readers read, and the model's reader. -/
def sgN (t : Nat → Nat) (L p : Nat) : Nat := if p < L then t p else 0
/-- the numbers' digits from a place on: where they end, and the value -/
def nuL (t : Nat → Nat) (L w : Nat) : Nat → Nat → Nat → Nat × Nat
  | 0, p, v => (p, v)
  | m + 1, p, v => if 0 < v ∧ (48 ≤ sgN t L p ∧ sgN t L p ≤ 57) ∧ 10 * v + (sgN t L p - 48) ≤ w then nuL t L w m (p + 1) (10 * v + (sgN t L p - 48)) else (p, v)
def nuN (t : Nat → Nat) (L ls w p : Nat) : Option (Nat × Nat) := if (48 + ls ≤ sgN t L p ∧ sgN t L p ≤ 57) ∧ sgN t L p - 48 ≤ w then some (nuL t L w (100 - p) (p + 1) (sgN t L p - 48)) else none
def gtL (l : Nat) : List Nat := if l = 99 then [5, 2, 9, 99, 5000] else if l = 114 then [9, 99, 5000] else if l = 100 then [9, 99] else if l = 109 then [9, 99, 5, 2] else if l = 110 then [100] else []
def rpN (t : Nat → Nat) (L ls : Nat) : List Nat → Nat → Nat → Nat × Option (List Nat)
  | [], _, p => (p, some [])
  | w :: ws, i, p => if 0 < i ∧ ¬ sgN t L p = 44 then (p, none) else match nuN t L ls w (if 0 < i then p + 1 else p) with
    | none => (if 0 < i then p + 1 else p, none)
    | some (q, v) => ((rpN t L ls ws (i + 1) q).1, (rpN t L ls ws (i + 1) q).2.map (v :: ·))
def rcN (t : Nat → Nat) (L p : Nat) : Nat × Option (List Nat) := if gtL (sgN t L p) = [] then (p, none) else rpN t L (if sgN t L p = 110 then 1 else 0) (gtL (sgN t L p)) 0 (p + 1)
def ivN (t : Nat → Nat) (L : Nat) : Nat → Nat → Nat × Bool
  | 0, p => (p, false)
  | m + 1, p => match (rcN t L p).2 with
    | none => ((rcN t L p).1, false)
    | some _ => if (rcN t L p).1 = L then (L, true) else if sgN t L (rcN t L p).1 = 59 then ivN t L m ((rcN t L p).1 + 1) else ((rcN t L p).1, false)
theorem sg_lt {t : Nat → Nat} {L p : Nat} (h : 0 < sgN t L p) : p < L := by
  unfold sgN at h
  split at h
  · assumption
  · omega
theorem nuL_le {t : Nat → Nat} {L w : Nat} : ∀ (m p v : Nat), p ≤ L → v ≤ w → (p ≤ (nuL t L w m p v).1 ∧ (nuL t L w m p v).1 ≤ L) ∧ (nuL t L w m p v).2 ≤ w
  | 0, p, v, h1, h2 => ⟨⟨Nat.le_refl _, h1⟩, h2⟩
  | m + 1, p, v, h1, h2 => by
    unfold nuL
    split
    · next c =>
      have h3 := sg_lt (t := t) (L := L) (p := p) (by omega)
      obtain ⟨⟨a1, a2⟩, a3⟩ := nuL_le (t := t) (L := L) (w := w) m (p + 1) (10 * v + (sgN t L p - 48)) (by omega) c.2.2
      exact ⟨⟨by omega, a2⟩, a3⟩
    · exact ⟨⟨Nat.le_refl _, h1⟩, h2⟩
theorem nuN_le {t : Nat → Nat} {L ls w p q v : Nat} (h : nuN t L ls w p = some (q, v)) : (p < q ∧ q ≤ L) ∧ v ≤ w := by
  unfold nuN at h
  split at h
  · next c =>
    have h3 := sg_lt (t := t) (L := L) (p := p) (by omega)
    have h4 := nuL_le (t := t) (L := L) (w := w) (100 - p) (p + 1) (sgN t L p - 48) (by omega) c.2
    rw [Option.some.inj h] at h4
    exact ⟨⟨by omega, h4.1.2⟩, h4.2⟩
  · cases h
theorem rpN_le {t : Nat → Nat} {L ls : Nat} : ∀ (ws : List Nat) (i p : Nat), p ≤ L → (p ≤ (rpN t L ls ws i p).1 ∧ (rpN t L ls ws i p).1 ≤ L) ∧ ∀ vs, (rpN t L ls ws i p).2 = some vs → vs.length = ws.length ∧ (∀ j, j < ws.length → vs.getD j 0 ≤ ws.getD j 0) ∧ (0 < ws.length → p < (rpN t L ls ws i p).1)
  | [], i, p, hp => ⟨⟨Nat.le_refl _, hp⟩, fun vs h => by
    obtain rfl := Option.some.inj h
    exact ⟨rfl, fun j hj => absurd hj (Nat.not_lt_zero j), fun z => absurd z (Nat.lt_irrefl 0)⟩⟩
  | w :: ws, i, p, hp => by
    unfold rpN
    split
    · exact ⟨⟨Nat.le_refl _, hp⟩, fun vs h => by cases h⟩
    · next c1 =>
      have hq : (if 0 < i then p + 1 else p) ≤ L ∧ p ≤ (if 0 < i then p + 1 else p) := by
        split
        · next c2 =>
          have h3 := sg_lt (t := t) (L := L) (p := p) (by have : sgN t L p = 44 := Classical.byContradiction fun z => c1 ⟨c2, z⟩
                                                          omega)
          omega
        · omega
      split
      · exact ⟨⟨hq.2, hq.1⟩, fun vs h => by cases h⟩
      · next q v hv =>
        have h5 := nuN_le hv
        obtain ⟨⟨a1, a2⟩, a3⟩ := rpN_le ws (i + 1) q h5.1.2
        refine ⟨⟨by omega, a2⟩, fun vs h => ?_⟩
        cases hr : (rpN t L ls ws (i + 1) q).2 with
        | none => rw [hr] at h; cases h
        | some vs' =>
          rw [hr] at h
          obtain rfl := Option.some.inj h
          obtain ⟨b1, b2, b3⟩ := a3 vs' hr
          refine ⟨congrArg (· + 1) b1, fun j hj => ?_, fun _ => by omega⟩
          cases j with
          | zero => exact h5.2
          | succ j => exact b2 j (Nat.lt_of_succ_lt_succ hj)
theorem gt_lt {l : Nat} (h : ¬ gtL l = []) : l = 99 ∨ l = 114 ∨ l = 100 ∨ l = 109 ∨ l = 110 := by
  unfold gtL at h
  by_cases h1 : l = 99
  · exact Or.inl h1
  by_cases h2 : l = 114
  · exact Or.inr (Or.inl h2)
  by_cases h3 : l = 100
  · exact Or.inr (Or.inr (Or.inl h3))
  by_cases h4 : l = 109
  · exact Or.inr (Or.inr (Or.inr (Or.inl h4)))
  by_cases h5 : l = 110
  · exact Or.inr (Or.inr (Or.inr (Or.inr h5)))
  rw [if_neg h1, if_neg h2, if_neg h3, if_neg h4, if_neg h5] at h
  exact absurd rfl h
theorem gt_ne {l : Nat} (h : l = 99 ∨ l = 114 ∨ l = 100 ∨ l = 109 ∨ l = 110) : 1 ≤ (gtL l).length ∧ (gtL l).length ≤ 5 ∧ ∀ j, j < (gtL l).length → (gtL l).getD j 0 ≤ 5000 := by
  rcases h with rfl | rfl | rfl | rfl | rfl <;> decide
theorem rcN_le {t : Nat → Nat} {L p : Nat} (hp : p ≤ L) : (p ≤ (rcN t L p).1 ∧ (rcN t L p).1 ≤ L) ∧ ∀ vs, (rcN t L p).2 = some vs → p + 2 ≤ (rcN t L p).1 ∧ ¬ gtL (sgN t L p) = [] ∧ vs.length = (gtL (sgN t L p)).length ∧ ∀ j, j < vs.length → vs.getD j 0 ≤ (gtL (sgN t L p)).getD j 0 := by
  unfold rcN
  split
  · exact ⟨⟨Nat.le_refl _, hp⟩, fun vs h => by cases h⟩
  · next c =>
    have h2 := gt_lt c
    have h3 := sg_lt (t := t) (L := L) (p := p) (by omega)
    obtain ⟨⟨a1, a2⟩, a3⟩ := rpN_le (t := t) (L := L) (ls := if sgN t L p = 110 then 1 else 0) (gtL (sgN t L p)) 0 (p + 1) (by omega)
    refine ⟨⟨by omega, a2⟩, fun vs h => ?_⟩
    obtain ⟨b1, b2, b3⟩ := a3 vs h
    have := (gt_ne h2).1
    exact ⟨b3 (by omega), c, b1, fun j hj => b2 j (by omega)⟩
/-- the text of the model's rows -/
def TxM (d : Nat → Nat → Int32) (t : Nat → Nat) (L : Nat) : Prop := d 0 5 = nQ L ∧ L ≤ 100 ∧ ∀ i, i < L → d 3 i = nQ (t i) ∧ 32 ≤ t i ∧ t i ≤ 126
abbrev atF (d : Nat → Nat → Int32) (q : Nat) : Nat → Nat → Int32 := rX d 0 (up (d 0) 6 (nQ q))
theorem up_i (f : Nat → Int32) (j : Nat) : up f j (f j) = f := by
  funext i
  by_cases h : i = j
  · rw [h, up_s]
  · rw [up_n h]
theorem at_i {d : Nat → Nat → Int32} {p : Nat} (h : d 0 6 = nQ p) : atF d p = d := by
  unfold atF
  rw [← h, up_i, rX_i]
theorem at_at (d : Nat → Nat → Int32) (p q : Nat) : atF (atF d p) q = atF d q := by
  unfold atF
  rw [rX_s, rX_r]
  congr 1
  funext i
  unfold up
  split <;> rfl
theorem Tx_at {d : Nat → Nat → Int32} {t : Nat → Nat} {L q : Nat} (h : TxM d t L) : TxM (atF d q) t L := h
theorem sg_le {d : Nat → Nat → Int32} {t : Nat → Nat} {L : Nat} (h : TxM d t L) (p : Nat) : sgN t L p ≤ 126 := by
  unfold sgN
  split
  · next c => exact (h.2.2 p c).2.2
  · decide
section Mt
variable {σ : Mem} {b : Nat} {d : Nat → Nat → Int32} {t : Nat → Nat} {L : Nat}
theorem m145 (h : ShM σ b) (hT : TxM d t L) {p : Nat} (hp : d 0 6 = nQ p) (hpL : p ≤ 101) : DoM 145 [.ref b] (sB 7 σ b d) = some (.inl (some (.int (nQ (sgN t L p)))), sB 7 σ b d) := by
  obtain ⟨h8, h0, ⟨p1, p2, p3, p4, p5, p6⟩, t1, t2, t3, t4, t5, t6⟩ := id h
  obtain ⟨hL, h100, hc⟩ := hT
  refine (g145_0).trans ?_
  unfold sgN
  by_cases c : p < L
  · have := (hc p c).1
    simp (disch := omega) only [aOk, eq_self, tk_sB, pr_sB, tk_wr, pr_wr, nQ_nat, nQ_neg, nQ_add, nQ_mul, nQ_lt, leF, ltT, ltF, rd_sB, rd_sB0, wr_sB, wr_sB0, cn_l, cn_r, Option.toList, List.cons_append, List.nil_append, if_true, if_false, true_and, and_true, or_false, false_or, true_or, or_true, not_false_eq_true, not_true_eq_false, and_false, false_and, zb_0, zb_1, q10, h0, p3, t3, hL, hp, this, c, g145_24]
  · simp (disch := omega) only [aOk, eq_self, tk_sB, pr_sB, tk_wr, pr_wr, nQ_nat, nQ_neg, nQ_add, nQ_mul, nQ_lt, leF, ltT, ltF, rd_sB, rd_sB0, wr_sB, wr_sB0, cn_l, cn_r, Option.toList, List.cons_append, List.nil_append, if_true, if_false, true_and, and_true, or_false, false_or, true_or, or_true, not_false_eq_true, not_true_eq_false, and_false, false_and, zb_0, zb_1, q10, h0, p3, t3, hL, hp, g145_24]
theorem m146 (h : ShM σ b) (hT : TxM d t L) {p : Nat} (hp : d 0 6 = nQ p) (hpL : p ≤ 100) {c : Nat} (hc : c ≤ 200) : DoM 146 [.ref b, .int (nQ c)] (sB 7 σ b d) = some (.inl (some (.int (if sgN t L p = c then nQ 1 else nQ 0))), sB 7 σ b (atF d (if sgN t L p = c then p + 1 else p))) := by
  have h0 := h.2.1
  have hs := sg_le hT p
  have e := m145 h hT hp (by omega)
  have e' : (nQ (sgN t L p) = nQ c) = (sgN t L p = c) := nQ_eq (by omega) (by omega)
  refine (g146_0).trans ?_
  rcases Classical.propComplete (sgN t L p = c) with c1 | c1 <;> simp (disch := omega) only [aOk, eq_self, tk_sB, pr_sB, tk_wr, pr_wr, nQ_nat, nQ_neg, nQ_add, nQ_mul, nQ_lt, leF, ltT, ltF, rd_sB, rd_sB0, wr_sB, wr_sB0, cn_l, cn_r, Option.toList, List.cons_append, List.nil_append, if_true, if_false, true_and, and_true, or_false, false_or, true_or, or_true, not_false_eq_true, not_true_eq_false, and_false, false_and, zb_0, zb_1, q10, h0, e, e', hp, c1, Nat.add_zero, g146_4, g146_13, g146_28, g146_32]
theorem m147 (h : ShM σ b) (hT : TxM d t L) {p : Nat} (hp : d 0 6 = nQ p) (hpL : p ≤ 100) {ls w : Nat} (hls : ls ≤ 1) (hw : w ≤ 5000) : DoM 147 [.ref b, .int (nQ ls), .int (nQ w)] (sB 7 σ b d) = match nuN t L ls w p with
    | none => some (.inl (some (.int (-1))), sB 7 σ b d)
    | some (q, v) => some (.inl (some (.int (nQ v))), sB 7 σ b (atF d q)) := by
  have h0 := h.2.1
  have L1 : ∀ (m p v : Nat) (d : Nat → Nat → Int32), TxM d t L → d 0 6 = nQ p → p ≤ 100 → 100 ≤ p + m → v ≤ w → RuM 147 (47, [some (.ref b), some (.int (nQ ls)), some (.int (nQ w)), some (.int (nQ v))], [], 0, 0) (sB 7 σ b d) = some (.inl (some (.int (nQ (nuL t L w m p v).2))), sB 7 σ b (atF d (nuL t L w m p v).1)) := by
    intro m
    induction m with
    | zero =>
      intro p v d hT hp hpL hm hv
      have hs : sgN t L p = 0 := if_neg (by have := hT.2.1; omega)
      have e := m145 h hT hp (by omega)
      rw [g147_47]
      unfold nuL
      rw [at_i hp]
      by_cases c1 : 0 < v
      · rw [hs] at e
        simp (disch := omega) only [m106, if_z, inP, aOk, eq_self, tk_sB, pr_sB, tk_wr, pr_wr, nQ_nat, nQ_neg, nQ_add, nQ_mul, nQ_lt, leF, ltT, ltF, rd_sB, rd_sB0, wr_sB, wr_sB0, cn_l, cn_r, Option.toList, List.cons_append, List.nil_append, if_true, if_false, true_and, and_true, or_false, false_or, true_or, or_true, not_false_eq_true, not_true_eq_false, and_false, false_and, zb_0, zb_1, q10, h0, e, c1, g147_4, g147_13, g147_20, g147_27, g147_33, g147_55, g147_62, g147_73, g147_89, g147_104, g147_107]
      · simp (disch := omega) only [aOk, eq_self, tk_sB, pr_sB, tk_wr, pr_wr, nQ_nat, nQ_neg, nQ_add, nQ_mul, nQ_lt, leF, ltT, ltF, rd_sB, rd_sB0, wr_sB, wr_sB0, cn_l, cn_r, Option.toList, List.cons_append, List.nil_append, if_true, if_false, true_and, and_true, or_false, false_or, true_or, or_true, not_false_eq_true, not_true_eq_false, and_false, false_and, zb_0, zb_1, q10, c1, g147_4, g147_13, g147_20, g147_27, g147_33, g147_55, g147_62, g147_73, g147_89, g147_104, g147_107]
    | succ m ih =>
      intro p v d hT hp hpL hm hv
      have hs := sg_le hT p
      have e := m145 h hT hp (by omega)
      have hlt := sg_lt (t := t) (L := L) (p := p)
      have h100 := hT.2.1
      rw [g147_47]
      unfold nuL
      generalize sgN t L p = s at *
      by_cases c1 : 0 < v
      · by_cases c2 : 48 ≤ s ∧ s ≤ 57
        · have i1 : inP (nQ s) (nQ 48) (nQ 57) = True := eq_true ⟨by rw [nQ_lt (by omega) (by omega)]; omega, by rw [nQ_lt (by omega) (by omega)]; omega⟩
          have hq : 10 * v + s - 48 = 10 * v + (s - 48) := by omega
          by_cases c4 : 10 * v + (s - 48) ≤ w
          · have i2 : (nQ w < nQ (10 * v + (s - 48))) = False := by rw [nQ_lt (by omega) (by omega)]; exact eq_false (by omega)
            rw [if_pos (show 0 < v ∧ (48 ≤ s ∧ s ≤ 57) ∧ 10 * v + (s - 48) ≤ w from ⟨c1, c2, c4⟩)]
            simp (disch := omega) only [m106, if_z, i1, i2, hq, aOk, eq_self, tk_sB, pr_sB, tk_wr, pr_wr, nQ_nat, nQ_neg, nQ_add, nQ_mul, nQ_lt, leF, ltT, ltF, rd_sB, rd_sB0, wr_sB, wr_sB0, cn_l, cn_r, Option.toList, List.cons_append, List.nil_append, if_true, if_false, true_and, and_true, or_false, false_or, true_or, or_true, not_false_eq_true, not_true_eq_false, and_false, false_and, zb_0, zb_1, q10, nQ_sub, h0, e, c1, hp, g147_4, g147_13, g147_20, g147_27, g147_33, g147_55, g147_62, g147_73, g147_89, g147_104, g147_107]
            have := ih (p + 1) (10 * v + (s - 48)) (atF d (p + 1)) (Tx_at hT) rfl (by omega) (by omega) c4
            rw [at_at] at this
            exact this
          · have i2 : (nQ w < nQ (10 * v + (s - 48))) = True := by rw [nQ_lt (by omega) (by omega)]; exact eq_true (by omega)
            rw [if_neg (fun z : 0 < v ∧ (48 ≤ s ∧ s ≤ 57) ∧ 10 * v + (s - 48) ≤ w => c4 z.2.2), at_i hp]
            simp (disch := omega) only [m106, if_z, i1, i2, hq, aOk, eq_self, tk_sB, pr_sB, tk_wr, pr_wr, nQ_nat, nQ_neg, nQ_add, nQ_mul, nQ_lt, leF, ltT, ltF, rd_sB, rd_sB0, wr_sB, wr_sB0, cn_l, cn_r, Option.toList, List.cons_append, List.nil_append, if_true, if_false, true_and, and_true, or_false, false_or, true_or, or_true, not_false_eq_true, not_true_eq_false, and_false, false_and, zb_0, zb_1, q10, nQ_sub, h0, e, c1, hp, g147_4, g147_13, g147_20, g147_27, g147_33, g147_55, g147_62, g147_73, g147_89, g147_104, g147_107]
        · have i1 : inP (nQ s) (nQ 48) (nQ 57) = False := eq_false (fun z => c2 (by
            obtain ⟨z1, z2⟩ := z
            rw [nQ_lt (by omega) (by omega)] at z1 z2
            omega))
          rw [if_neg (fun z : 0 < v ∧ (48 ≤ s ∧ s ≤ 57) ∧ 10 * v + (s - 48) ≤ w => c2 z.2.1), at_i hp]
          simp (disch := omega) only [m106, if_z, i1, aOk, eq_self, tk_sB, pr_sB, tk_wr, pr_wr, nQ_nat, nQ_neg, nQ_add, nQ_mul, nQ_lt, leF, ltT, ltF, rd_sB, rd_sB0, wr_sB, wr_sB0, cn_l, cn_r, Option.toList, List.cons_append, List.nil_append, if_true, if_false, true_and, and_true, or_false, false_or, true_or, or_true, not_false_eq_true, not_true_eq_false, and_false, false_and, zb_0, zb_1, q10, h0, e, c1, g147_4, g147_13, g147_20, g147_27, g147_33, g147_55, g147_62, g147_73, g147_89, g147_104, g147_107]
      · rw [if_neg (fun z : 0 < v ∧ (48 ≤ s ∧ s ≤ 57) ∧ 10 * v + (s - 48) ≤ w => c1 z.1), at_i hp]
        simp (disch := omega) only [aOk, eq_self, tk_sB, pr_sB, tk_wr, pr_wr, nQ_nat, nQ_neg, nQ_add, nQ_mul, nQ_lt, leF, ltT, ltF, rd_sB, rd_sB0, wr_sB, wr_sB0, cn_l, cn_r, Option.toList, List.cons_append, List.nil_append, if_true, if_false, true_and, and_true, or_false, false_or, true_or, or_true, not_false_eq_true, not_true_eq_false, and_false, false_and, zb_0, zb_1, q10, c1, g147_4, g147_13, g147_20, g147_27, g147_33, g147_55, g147_62, g147_73, g147_89, g147_104, g147_107]
  have hs := sg_le hT p
  have e := m145 h hT hp (by omega)
  have hlt := sg_lt (t := t) (L := L) (p := p)
  have h100 := hT.2.1
  refine (g147_0).trans ?_
  unfold nuN
  generalize sgN t L p = s at *
  by_cases c2 : 48 + ls ≤ s ∧ s ≤ 57
  · have i1 : inP (nQ s) (nQ (48 + ls)) (nQ 57) = True := eq_true ⟨by rw [nQ_lt (by omega) (by omega)]; omega, by rw [nQ_lt (by omega) (by omega)]; omega⟩
    by_cases c4 : s - 48 ≤ w
    · have i2 : (nQ w < nQ (s - 48)) = False := by rw [nQ_lt (by omega) (by omega)]; exact eq_false (by omega)
      rw [if_pos (show (48 + ls ≤ s ∧ s ≤ 57) ∧ s - 48 ≤ w from ⟨c2, c4⟩)]
      simp (disch := omega) only [m106, if_z, i1, i2, aOk, eq_self, tk_sB, pr_sB, tk_wr, pr_wr, nQ_nat, nQ_neg, nQ_add, nQ_mul, nQ_lt, leF, ltT, ltF, rd_sB, rd_sB0, wr_sB, wr_sB0, cn_l, cn_r, Option.toList, List.cons_append, List.nil_append, if_true, if_false, true_and, and_true, or_false, false_or, true_or, or_true, not_false_eq_true, not_true_eq_false, and_false, false_and, zb_0, zb_1, q10, nQ_sub, h0, e, hp, g147_4, g147_13, g147_20, g147_27, g147_33, g147_55, g147_62, g147_73, g147_89, g147_104, g147_107]
      have := L1 (100 - p) (p + 1) (s - 48) (atF d (p + 1)) (Tx_at hT) rfl (by omega) (by omega) c4
      rw [at_at] at this
      exact this
    · have i2 : (nQ w < nQ (s - 48)) = True := by rw [nQ_lt (by omega) (by omega)]; exact eq_true (by omega)
      rw [if_neg (fun z : (48 + ls ≤ s ∧ s ≤ 57) ∧ s - 48 ≤ w => c4 z.2)]
      simp (disch := omega) only [m106, if_z, i1, i2, aOk, eq_self, tk_sB, pr_sB, tk_wr, pr_wr, nQ_nat, nQ_neg, nQ_add, nQ_mul, nQ_lt, leF, ltT, ltF, rd_sB, rd_sB0, wr_sB, wr_sB0, cn_l, cn_r, Option.toList, List.cons_append, List.nil_append, if_true, if_false, true_and, and_true, or_false, false_or, true_or, or_true, not_false_eq_true, not_true_eq_false, and_false, false_and, zb_0, zb_1, q10, nQ_sub, h0, e, hp, g147_4, g147_13, g147_20, g147_27, g147_33, g147_55, g147_62, g147_73, g147_89, g147_104, g147_107]
  · have i1 : inP (nQ s) (nQ (48 + ls)) (nQ 57) = False := eq_false (fun z => c2 (by
      obtain ⟨z1, z2⟩ := z
      rw [nQ_lt (by omega) (by omega)] at z1 z2
      omega))
    rw [if_neg (fun z : (48 + ls ≤ s ∧ s ≤ 57) ∧ s - 48 ≤ w => c2 z.1)]
    simp (disch := omega) only [m106, if_z, i1, aOk, eq_self, tk_sB, pr_sB, tk_wr, pr_wr, nQ_nat, nQ_neg, nQ_add, nQ_mul, nQ_lt, leF, ltT, ltF, rd_sB, rd_sB0, wr_sB, wr_sB0, cn_l, cn_r, Option.toList, List.cons_append, List.nil_append, if_true, if_false, true_and, and_true, or_false, false_or, true_or, or_true, not_false_eq_true, not_true_eq_false, and_false, false_and, zb_0, zb_1, q10, h0, e, g147_4, g147_13, g147_20, g147_27, g147_33, g147_55, g147_62, g147_73, g147_89, g147_104, g147_107]
theorem m148 {σ : Mem} {l i : Nat} (hl : l = 99 ∨ l = 114 ∨ l = 100 ∨ l = 109 ∨ l = 110) (hi : i < 5) : DoM 148 [.int (nQ l), .int (nQ i)] σ = some (.inl (some (.int (if i < (gtL l).length then nQ ((gtL l).getD i 0) else -1))), σ) := by
  refine (g148_0).trans ?_
  rcases hl with rfl | rfl | rfl | rfl | rfl <;> rcases (show i = 0 ∨ i = 1 ∨ i = 2 ∨ i = 3 ∨ i = 4 by omega) with rfl | rfl | rfl | rfl | rfl <;> simp (disch := decide) [nQ_eq, nQ_add, gtL, g148_11, g148_24, g148_55, g148_121, g148_134, g148_154]
def PoR (d d' : Nat → Nat → Int32) (i : Nat) (R : Nat × Option (List Nat)) : Prop := (∀ u, ¬ u = 0 → ¬ u = 4 → d' u = d u) ∧ d' 0 = up (d 0) 6 (nQ R.1) ∧ (∀ j, j < i → d' 4 j = d 4 j) ∧ ∀ vs, R.2 = some vs → ∀ j, j < vs.length → d' 4 (i + j) = nQ (vs.getD j 0)
theorem up_up (f : Nat → Int32) (j : Nat) (x y : Int32) : up (up f j x) j y = up f j y := by
  funext i
  unfold up
  split <;> rfl
/-- a command's numbers -/
theorem m149_l (h : ShM σ b) {l : Nat} (hl : l = 99 ∨ l = 114 ∨ l = 100 ∨ l = 109 ∨ l = 110) : ∀ (ws : List Nat) (i p : Nat) (d : Nat → Nat → Int32), (gtL l).drop i = ws → i ≤ 5 → TxM d t L → d 0 6 = nQ p → d 0 7 = nQ l → p ≤ L → ∃ d', RuM 149 (57, [some (.ref b), some (.int (nQ i))], [], 0, 0) (sB 7 σ b d) = some (.inl (some (.int (if (rpN t L (if l = 110 then 1 else 0) ws i p).2.isSome = true then nQ 1 else nQ 0))), sB 7 σ b d') ∧ PoR d d' i (rpN t L (if l = 110 then 1 else 0) ws i p) := by
  obtain ⟨h8, h0, ⟨p1, p2, p3, p4, p5, p6⟩, t1, t2, t3, t4, t5, t6⟩ := id h
  have g := gt_ne hl
  have el : (nQ l = nQ 110) = (l = 110) := nQ_eq (by omega) (by decide)
  have hb4 : 8 ≤ b + 4 := by omega
  have n1 : ((-1 : Int32) < nQ 0) = True := by decide
  intro ws
  induction ws with
  | nil =>
    intro i p d hd hi hT hp h7 hpL
    have hlen := List.drop_eq_nil_iff.mp hd
    refine ⟨d, ?_, fun _ _ _ => rfl, ?_, fun _ _ => rfl, fun vs hv => ?_⟩
    · rw [g149_57]
      by_cases c : i < 5
      · have e := m148 (σ := sB 7 σ b d) hl c
        rw [if_neg (by omega)] at e
        simp (disch := omega) only [aOk, eq_self, tk_sB, pr_sB, tk_wr, pr_wr, nQ_nat, nQ_neg, nQ_add, nQ_mul, nQ_lt, leF, ltT, ltF, rd_sB, rd_sB0, wr_sB, wr_sB0, cn_l, cn_r, Option.toList, List.cons_append, List.nil_append, if_true, if_false, true_and, and_true, or_false, false_or, true_or, or_true, not_false_eq_true, not_true_eq_false, and_false, false_and, zb_0, zb_1, q10, h0, h7, c, e, n1, g149_70, g149_137]
        rfl
      · simp (disch := omega) only [aOk, eq_self, tk_sB, pr_sB, tk_wr, pr_wr, nQ_nat, nQ_neg, nQ_add, nQ_mul, nQ_lt, leF, ltT, ltF, rd_sB, rd_sB0, wr_sB, wr_sB0, cn_l, cn_r, Option.toList, List.cons_append, List.nil_append, if_true, if_false, true_and, and_true, or_false, false_or, true_or, or_true, not_false_eq_true, not_true_eq_false, and_false, false_and, zb_0, zb_1, q10, c, g149_137]
        rfl
    · show d 0 = up (d 0) 6 (nQ p)
      rw [← hp, up_i]
    · obtain rfl := Option.some.inj hv
      exact fun j hj => absurd hj (Nat.not_lt_zero j)
  | cons w ws ih =>
    intro i p d hd hi hT hp h7 hpL
    have hlen : i < (gtL l).length := by
      rcases Nat.lt_or_ge i (gtL l).length with c | c
      · exact c
      · rw [List.drop_eq_nil_of_le c] at hd
        cases hd
    have hw : (gtL l).getD i 0 = w := by
      rw [List.drop_eq_getElem_cons hlen] at hd
      rw [List.getD_eq_getElem?_getD, List.getElem?_eq_getElem hlen]
      exact (List.cons.inj hd).1
    have hws : (gtL l).drop (i + 1) = ws := by
      rw [List.drop_eq_getElem_cons hlen] at hd
      exact (List.cons.inj hd).2
    have hi5 : i < 5 := by omega
    have w5 : w ≤ 5000 := hw ▸ g.2.2 i hlen
    have e48 : ∀ σ' : Mem, DoM 148 [.int (nQ l), .int (nQ i)] σ' = some (.inl (some (.int (nQ w))), σ') := fun σ' => by
      have := m148 (σ := σ') hl hi5
      rwa [if_pos hlen, hw] at this
    have h100 := hT.2.1
    have K : ∀ (q : Nat) (D : Nat → Nat → Int32), TxM D t L → D 0 6 = nQ q → D 0 7 = nQ l → q ≤ L → (∀ u, ¬ u = 0 → D u = d u) → D 0 = up (d 0) 6 (nQ q) → ∃ d', RuM 149 (88, [some (.ref b), some (.int (nQ i))], [], 0, 0) (sB 7 σ b D) = some (.inl (some (.int (if (match nuN t L (if l = 110 then 1 else 0) w q with
        | none => ((q, none) : Nat × Option (List Nat))
        | some (q', v) => ((rpN t L (if l = 110 then 1 else 0) ws (i + 1) q').1, (rpN t L (if l = 110 then 1 else 0) ws (i + 1) q').2.map (v :: ·))).2.isSome = true then nQ 1 else nQ 0))), sB 7 σ b d') ∧ PoR d d' i (match nuN t L (if l = 110 then 1 else 0) w q with
        | none => ((q, none) : Nat × Option (List Nat))
        | some (q', v) => ((rpN t L (if l = 110 then 1 else 0) ws (i + 1) q').1, (rpN t L (if l = 110 then 1 else 0) ws (i + 1) q').2.map (v :: ·))) := by
      intro q D hT hq h7 hqL hDu hD0
      have e47 := m147 h hT hq (by omega) (ls := if l = 110 then 1 else 0) (w := w) (by split <;> omega) w5
      have x1 : RuM 149 (88, [some (.ref b), some (.int (nQ i))], [], 0, 0) (sB 7 σ b D) = RuM 149 (116, [some (.ref b), some (.int (nQ i))], [.int (nQ w), .int (nQ (if l = 110 then 1 else 0)), .ref b, .int (nQ i), .ref (b + 4)], 0, 0) (sB 7 σ b D) := by
        rw [g149_88]
        rcases Classical.propComplete (l = 110) with c | c <;> simp (disch := omega) only [aOk, eq_self, tk_sB, pr_sB, tk_wr, pr_wr, nQ_nat, nQ_neg, nQ_add, nQ_mul, nQ_lt, leF, ltT, ltF, rd_sB, rd_sB0, wr_sB, wr_sB0, cn_l, cn_r, Option.toList, List.cons_append, List.nil_append, if_true, if_false, true_and, and_true, or_false, false_or, true_or, or_true, not_false_eq_true, not_true_eq_false, and_false, false_and, zb_0, zb_1, q10, h0, h7, el, c, p4, e48, g149_108]
      rw [x1]
      cases hn : nuN t L (if l = 110 then 1 else 0) w q with
      | none =>
        rw [hn] at e47
        dsimp only at e47 ⊢
        refine ⟨rX D 4 (up (D 4) i (-1)), ?_, ?_⟩
        · simp (disch := omega) only [aOk, eq_self, tk_sB, pr_sB, tk_wr, pr_wr, nQ_nat, nQ_neg, nQ_add, nQ_mul, nQ_lt, leF, ltT, ltF, rd_sB, rd_sB0, wr_sB, wr_sB0, cn_l, cn_r, Option.toList, List.cons_append, List.nil_append, if_true, if_false, true_and, and_true, or_false, false_or, true_or, or_true, not_false_eq_true, not_true_eq_false, and_false, false_and, zb_0, zb_1, q10, h0, e47, p4, t4, hb4, rX_s, up_s, n1, g149_116, g149_119, g149_120]
          rfl
        · refine ⟨fun u h1 h2 => (rX_n h2).trans (hDu u h1), (rX_n (by omega)).trans hD0, fun j hj => ?_, fun vs hv => by cases hv⟩
          rw [rX_s, up_n (by omega), hDu 4 (by omega)]
      | some qv =>
        obtain ⟨q', v⟩ := qv
        rw [hn] at e47
        dsimp only at e47 ⊢
        have hle := nuN_le hn
        have hv0 : (nQ v < nQ 0) = False := by rw [nQ_lt (by omega) (by decide)]; exact eq_false (by omega)
        obtain ⟨d', y1, y2, y3, y4, y5⟩ := ih (i + 1) q' (rX (atF D q') 4 (up (D 4) i (nQ v))) hws (by omega) hT rfl h7 hle.1.2
        refine ⟨d', ?_, ?_⟩
        · simp (disch := omega) only [aOk, eq_self, tk_sB, pr_sB, tk_wr, pr_wr, nQ_nat, nQ_neg, nQ_add, nQ_mul, nQ_lt, leF, ltT, ltF, rd_sB, rd_sB0, wr_sB, wr_sB0, cn_l, cn_r, Option.toList, List.cons_append, List.nil_append, if_true, if_false, true_and, and_true, or_false, false_or, true_or, or_true, not_false_eq_true, not_true_eq_false, and_false, false_and, zb_0, zb_1, q10, h0, e47, p4, t4, hb4, rX_s, rX_n, up_s, hv0, g149_116, g149_119, g149_120]
          rw [y1]
          simp only [Option.isSome_map]
        · refine ⟨fun u h1 h2 => ?_, ?_, fun j hj => ?_, fun vs hv => ?_⟩
          · rw [y2 u h1 h2, rX_n h2]
            exact (rX_n h1).trans (hDu u h1)
          · rw [y3, rX_n (by omega)]
            show up (up (D 0) 6 (nQ q')) 6 (nQ (rpN t L (if l = 110 then 1 else 0) ws (i + 1) q').1) = up (d 0) 6 (nQ (rpN t L (if l = 110 then 1 else 0) ws (i + 1) q').1)
            rw [up_up, hD0, up_up]
          · rw [y4 j (by omega), rX_s, up_n (by omega), hDu 4 (by omega)]
          · cases hr : (rpN t L (if l = 110 then 1 else 0) ws (i + 1) q').2 with
            | none => rw [hr] at hv; cases hv
            | some vs' =>
              rw [hr] at hv
              obtain rfl := Option.some.inj hv
              intro j hj
              cases j with
              | zero => rw [Nat.add_zero, y4 i (by omega), rX_s, up_s]; rfl
              | succ j =>
                have := y5 vs' hr j (Nat.lt_of_succ_lt_succ hj)
                rw [show i + (j + 1) = i + 1 + j by omega, this]
                rfl
    have hw0 : (nQ w < nQ 0) = False := by rw [nQ_lt (by omega) (by decide)]; exact eq_false (by omega)
    rw [g149_57]
    unfold rpN
    by_cases ci : 0 < i
    · have e46 := m146 h hT hp (by omega) (c := 44) (by omega)
      by_cases cs : sgN t L p = 44
      · have hlt := sg_lt (t := t) (L := L) (p := p) (by omega)
        obtain ⟨d', y1, y2⟩ := K (p + 1) (atF d (p + 1)) hT rfl h7 (by omega) (fun u hu => rX_n hu) rfl
        refine ⟨d', ?_, ?_⟩
        · simp (disch := omega) only [cs, ci, aOk, eq_self, tk_sB, pr_sB, tk_wr, pr_wr, nQ_nat, nQ_neg, nQ_add, nQ_mul, nQ_lt, leF, ltT, ltF, rd_sB, rd_sB0, wr_sB, wr_sB0, cn_l, cn_r, Option.toList, List.cons_append, List.nil_append, if_true, if_false, true_and, and_true, or_false, false_or, true_or, or_true, not_false_eq_true, not_true_eq_false, and_false, false_and, zb_0, zb_1, q10, h0, h7, hi5, e48, hw0, e46, q10, g149_70, g149_83]
          exact y1
        · rw [if_neg (fun z : 0 < i ∧ ¬ sgN t L p = 44 => z.2 cs)]
          simp only [ci, if_true]
          exact y2
      · refine ⟨d, ?_, ?_⟩
        · rw [if_pos (show 0 < i ∧ ¬ sgN t L p = 44 from ⟨ci, cs⟩)]
          simp (disch := omega) only [cs, ci, aOk, eq_self, tk_sB, pr_sB, tk_wr, pr_wr, nQ_nat, nQ_neg, nQ_add, nQ_mul, nQ_lt, leF, ltT, ltF, rd_sB, rd_sB0, wr_sB, wr_sB0, cn_l, cn_r, Option.toList, List.cons_append, List.nil_append, if_true, if_false, true_and, and_true, or_false, false_or, true_or, or_true, not_false_eq_true, not_true_eq_false, and_false, false_and, zb_0, zb_1, q10, h0, h7, hi5, e48, hw0, e46, at_i hp, g149_70, g149_83]
          rfl
        · rw [if_pos (show 0 < i ∧ ¬ sgN t L p = 44 from ⟨ci, cs⟩)]
          refine ⟨fun _ _ _ => rfl, ?_, fun _ _ => rfl, fun vs hv => by cases hv⟩
          show d 0 = up (d 0) 6 (nQ p)
          rw [← hp, up_i]
    · obtain ⟨d', y1, y2⟩ := K p d hT hp h7 hpL (fun u hu => rfl) (by rw [← hp, up_i])
      refine ⟨d', ?_, ?_⟩
      · simp (disch := omega) only [ci, aOk, eq_self, tk_sB, pr_sB, tk_wr, pr_wr, nQ_nat, nQ_neg, nQ_add, nQ_mul, nQ_lt, leF, ltT, ltF, rd_sB, rd_sB0, wr_sB, wr_sB0, cn_l, cn_r, Option.toList, List.cons_append, List.nil_append, if_true, if_false, true_and, and_true, or_false, false_or, true_or, or_true, not_false_eq_true, not_true_eq_false, and_false, false_and, zb_0, zb_1, q10, h0, h7, hi5, e48, hw0, g149_70]
        exact y1
      · rw [if_neg (fun z : 0 < i ∧ ¬ sgN t L p = 44 => ci z.1)]
        simp only [ci, if_false]
        exact y2
abbrev d7F (d : Nat → Nat → Int32) (s : Nat) : Nat → Nat → Int32 := rX d 0 (up (d 0) 7 (nQ s))
theorem m149 (h : ShM σ b) (hT : TxM d t L) {p : Nat} (hp : d 0 6 = nQ p) (hpL : p ≤ L) : ∃ d', DoM 149 [.ref b] (sB 7 σ b d) = some (.inl (some (.int (if (rcN t L p).2.isSome = true then nQ 1 else nQ 0))), sB 7 σ b d') ∧ PoR (d7F d (sgN t L p)) d' 0 (rcN t L p) := by
  have h0 := h.2.1
  have h100 := hT.2.1
  have e5 := m145 h hT hp (by omega)
  have hs := sg_le hT p
  have e6 : ∀ c, c ≤ 200 → DoM 146 [.ref b, .int (nQ c)] (sB 7 σ b (d7F d (sgN t L p))) = some (.inl (some (.int (if sgN t L p = c then nQ 1 else nQ 0))), sB 7 σ b (atF (d7F d (sgN t L p)) (if sgN t L p = c then p + 1 else p))) := fun c hc => m146 (d := d7F d (sgN t L p)) h hT hp (by omega) hc
  have ei : atF (d7F d (sgN t L p)) p = d7F d (sgN t L p) := at_i hp
  have a1 := e6 99 (by decide)
  have a2 := e6 114 (by decide)
  have a3 := e6 100 (by decide)
  have a4 := e6 109 (by decide)
  have a5 := e6 110 (by decide)
  have x0 : DoM 149 [.ref b] (sB 7 σ b d) = RuM 149 (8, [some (.ref b), none], [], 0, 0) (sB 7 σ b (d7F d (sgN t L p))) := by
    refine (g149_0).trans ?_
    simp (disch := omega) only [aOk, eq_self, tk_sB, pr_sB, tk_wr, pr_wr, nQ_nat, nQ_neg, nQ_add, nQ_mul, nQ_lt, leF, ltT, ltF, rd_sB, rd_sB0, wr_sB, wr_sB0, cn_l, cn_r, Option.toList, List.cons_append, List.nil_append, if_true, if_false, true_and, and_true, or_false, false_or, true_or, or_true, not_false_eq_true, not_true_eq_false, and_false, false_and, zb_0, zb_1, q10, h0, e5, g149_5]
  rw [x0]
  unfold rcN
  by_cases c : gtL (sgN t L p) = []
  · have n1 : ¬ sgN t L p = 99 := fun z => by rw [z] at c; cases c
    have n2 : ¬ sgN t L p = 114 := fun z => by rw [z] at c; cases c
    have n3 : ¬ sgN t L p = 100 := fun z => by rw [z] at c; cases c
    have n4 : ¬ sgN t L p = 109 := fun z => by rw [z] at c; cases c
    have n5 : ¬ sgN t L p = 110 := fun z => by rw [z] at c; cases c
    rw [if_neg n1, if_neg n1, ei] at a1
    rw [if_neg n2, if_neg n2, ei] at a2
    rw [if_neg n3, if_neg n3, ei] at a3
    rw [if_neg n4, if_neg n4, ei] at a4
    rw [if_neg n5, if_neg n5, ei] at a5
    rw [if_pos c]
    refine ⟨d7F d (sgN t L p), ?_, fun _ _ _ => rfl, ?_, fun _ _ => rfl, fun vs hv => by cases hv⟩
    · rw [g149_8]
      simp (disch := omega) only [cn_l, tk_sB, h0, if_true, Option.toList, List.cons_append, List.nil_append, a1, a2, a3, a4, a5, g149_14, g149_23, g149_32, g149_41, g149_50]
      rfl
    · show d7F d (sgN t L p) 0 = up (d7F d (sgN t L p) 0) 6 (nQ p)
      have : d7F d (sgN t L p) 0 6 = nQ p := hp
      rw [← this, up_i]
  · rw [if_neg c]
    have hl := gt_lt c
    have hlt := sg_lt (t := t) (L := L) (p := p) (by omega)
    obtain ⟨d', y1, y2, y3, y4, y5⟩ := m149_l (σ := σ) (t := t) (L := L) h hl (gtL (sgN t L p)) 0 (p + 1) (atF (d7F d (sgN t L p)) (p + 1)) rfl (by decide) hT rfl rfl (by omega)
    refine ⟨d', ?_, fun u h1 h2 => (y2 u h1 h2).trans (rX_n h1), ?_, fun j hj => absurd hj (Nat.not_lt_zero j), y5⟩
    · rw [← y1, g149_8]
      generalize sgN t L p = s at *
      rcases hl with rfl | rfl | rfl | rfl | rfl
      · rw [if_pos rfl, if_pos rfl] at a1
        simp (disch := omega) only [cn_l, tk_sB, h0, if_true, Option.toList, List.cons_append, List.nil_append, a1, q10, if_false, g149_14, g149_55]
      · rw [if_neg (by decide), if_neg (by decide), ei] at a1
        rw [if_pos rfl, if_pos rfl] at a2
        simp (disch := omega) only [cn_l, tk_sB, h0, if_true, Option.toList, List.cons_append, List.nil_append, a1, a2, q10, if_false, g149_14, g149_23, g149_55]
      · rw [if_neg (by decide), if_neg (by decide), ei] at a1
        rw [if_neg (by decide), if_neg (by decide), ei] at a2
        rw [if_pos rfl, if_pos rfl] at a3
        simp (disch := omega) only [cn_l, tk_sB, h0, if_true, Option.toList, List.cons_append, List.nil_append, a1, a2, a3, q10, if_false, g149_14, g149_23, g149_32, g149_55]
      · rw [if_neg (by decide), if_neg (by decide), ei] at a1
        rw [if_neg (by decide), if_neg (by decide), ei] at a2
        rw [if_neg (by decide), if_neg (by decide), ei] at a3
        rw [if_pos rfl, if_pos rfl] at a4
        simp (disch := omega) only [cn_l, tk_sB, h0, if_true, Option.toList, List.cons_append, List.nil_append, a1, a2, a3, a4, q10, if_false, g149_14, g149_23, g149_32, g149_41, g149_55]
      · rw [if_neg (by decide), if_neg (by decide), ei] at a1
        rw [if_neg (by decide), if_neg (by decide), ei] at a2
        rw [if_neg (by decide), if_neg (by decide), ei] at a3
        rw [if_neg (by decide), if_neg (by decide), ei] at a4
        rw [if_pos rfl, if_pos rfl] at a5
        simp (disch := omega) only [cn_l, tk_sB, h0, if_true, Option.toList, List.cons_append, List.nil_append, a1, a2, a3, a4, a5, q10, if_false, g149_14, g149_23, g149_32, g149_41, g149_50, g149_55]
    · rw [y3]
      exact up_up _ _ _ _
theorem m150_l (h : ShM σ b) : ∀ (m p : Nat) (d : Nat → Nat → Int32), TxM d t L → d 0 6 = nQ p → p ≤ L → 100 < p + m → ∃ d', RuM 150 (5, [some (.ref b)], [], 0, 0) (sB 7 σ b d) = some (.inl (some (.int (if (ivN t L m p).2 = true then nQ 1 else nQ 0))), sB 7 σ b d') ∧ (∀ u, ¬ u = 0 → ¬ u = 4 → d' u = d u) ∧ (∀ j, ¬ j = 6 → ¬ j = 7 → d' 0 j = d 0 j) ∧ d' 0 6 = nQ (ivN t L m p).1
  | 0, p, d, hT, hp, hpL, hm => by have := hT.2.1; omega
  | m + 1, p, d, hT, hp, hpL, hm => by
    have h0 := h.2.1
    have h100 := hT.2.1
    obtain ⟨d1, x1, x2, x3, x4, x5⟩ := m149 h hT hp hpL
    obtain ⟨hle, hvs⟩ := rcN_le (t := t) hpL
    have w6 : d1 0 6 = nQ (rcN t L p).1 := by rw [x3, up_s]
    have wj : ∀ j, ¬ j = 6 → ¬ j = 7 → d1 0 j = d 0 j := fun j h1 h2 => by
      rw [x3, up_n h1]
      exact up_n h2
    have wu : ∀ u, ¬ u = 0 → ¬ u = 4 → d1 u = d u := fun u h1 h2 => (x2 u h1 h2).trans (rX_n h1)
    have hT1 : TxM d1 t L := ⟨(wj 5 (by decide) (by decide)).trans hT.1, h100, fun i hi => by rw [wu 3 (by decide) (by decide)]; exact hT.2.2 i hi⟩
    rw [g150_5]
    unfold ivN
    cases hr : (rcN t L p).2 with
    | none =>
      rw [hr] at x1
      refine ⟨d1, ?_, wu, wj, w6⟩
      simp (disch := omega) only [cn_l, tk_sB, h0, if_true, Option.toList, List.cons_append, List.nil_append, x1, Option.isSome_none, Bool.false_eq_true, if_false, g150_9]
    | some vs =>
      have hv := hvs vs hr
      rw [hr] at x1
      by_cases c : (rcN t L p).1 = L
      · refine ⟨d1, ?_, wu, wj, ?_⟩
        · have w5 : d1 0 5 = nQ L := hT1.1
          rw [c] at w6
          simp (disch := omega) only [cn_l, tk_sB, h0, if_true, Option.toList, List.cons_append, List.nil_append, x1, Option.isSome_some, q10, if_false, rd_sB0, w5, w6, c, g150_9]
        · simp only [c, if_true]
          rw [← c, w6]
      · have e6 := m146 h hT1 w6 (by omega) (c := 59) (by decide)
        have w5 : d1 0 5 = nQ L := hT1.1
        have ec : (nQ (rcN t L p).1 = nQ L) = False := by rw [nQ_eq (by omega) (by omega)]; exact eq_false c
        by_cases c2 : sgN t L (rcN t L p).1 = 59
        · have hlt := sg_lt (t := t) (L := L) (p := (rcN t L p).1) (by omega)
          obtain ⟨d', y1, y2, y3, y4⟩ := m150_l h m ((rcN t L p).1 + 1) (atF d1 ((rcN t L p).1 + 1)) hT1 rfl (by omega) (by omega)
          refine ⟨d', ?_, fun u h1 h2 => ?_, fun j h1 h2 => ?_, ?_⟩
          · simp (disch := omega) only [cn_l, tk_sB, h0, if_true, Option.toList, List.cons_append, List.nil_append, x1, Option.isSome_some, q10, if_false, rd_sB0, w5, w6, ec, c, e6, c2, g150_9, g150_31]
            exact y1
          · exact (y2 u h1 h2).trans ((rX_n h1).trans (wu u h1 h2))
          · exact (y3 j h1 h2).trans ((up_n h1).trans (wj j h1 h2))
          · simp only [c, c2, if_true, if_false]
            exact y4
        · refine ⟨d1, ?_, wu, wj, ?_⟩
          · simp (disch := omega) only [cn_l, tk_sB, h0, if_true, Option.toList, List.cons_append, List.nil_append, x1, Option.isSome_some, q10, if_false, rd_sB0, w5, w6, ec, c, e6, c2, at_i w6, Bool.false_eq_true, g150_9, g150_31]
          · simp only [c, c2, if_false]
            exact w6
theorem m150 (h : ShM σ b) (hT : TxM d t L) : ∃ d', DoM 150 [.ref b] (sB 7 σ b d) = some (.inl (some (.int (if (ivN t L 101 0).2 = true then nQ 1 else nQ 0))), sB 7 σ b d') ∧ (∀ u, ¬ u = 0 → ¬ u = 4 → d' u = d u) ∧ (∀ j, ¬ j = 6 → ¬ j = 7 → d' 0 j = d 0 j) ∧ d' 0 6 = nQ (ivN t L 101 0).1 := by
  have h0 := h.2.1
  obtain ⟨d', y1, y2, y3, y4⟩ := m150_l h 101 0 (atF d 0) hT rfl (Nat.zero_le _) (by decide)
  refine ⟨d', ?_, fun u h1 h2 => (y2 u h1 h2).trans (rX_n h1), fun j h1 h2 => (y3 j h1 h2).trans (up_n h1), y4⟩
  refine (g150_0).trans ?_
  simp (disch := omega) only [aOk, eq_self, tk_sB, pr_sB, tk_wr, pr_wr, nQ_nat, nQ_neg, nQ_add, nQ_mul, nQ_lt, leF, ltT, ltF, rd_sB, rd_sB0, wr_sB, wr_sB0, cn_l, cn_r, Option.toList, List.cons_append, List.nil_append, if_true, if_false, true_and, and_true, or_false, false_or, true_or, or_true, not_false_eq_true, not_true_eq_false, and_false, false_and, zb_0, zb_1, q10, h0]
  exact y1
theorem m151 (h : ShM σ b) (hT : TxM d t L) : ∃ d', DoM 151 [.ref b] (sB 7 σ b d) = some (.inl (some (.int (if (ivN t L 101 0).2 = true then -1 else nQ (ivN t L 101 0).1))), sB 7 σ b d') ∧ (∀ u, ¬ u = 0 → ¬ u = 4 → d' u = d u) ∧ (∀ j, ¬ j = 6 → ¬ j = 7 → d' 0 j = up (d 0) 0 (nQ 0) j) := by
  have h0 := h.2.1
  obtain ⟨d', y1, y2, y3, y4⟩ := m150 (d := rX d 0 (up (d 0) 0 (nQ 0))) h (t := t) (L := L) hT
  refine ⟨d', ?_, fun u h1 h2 => (y2 u h1 h2).trans (rX_n h1), fun j h1 h2 => y3 j h1 h2⟩
  refine (g151_0).trans ?_
  rcases Classical.propComplete ((ivN t L 101 0).2 = true) with c | c
  · simp only [c, if_true] at y1
    simp (disch := omega) only [aOk, eq_self, tk_sB, pr_sB, tk_wr, pr_wr, nQ_nat, nQ_neg, nQ_add, nQ_mul, nQ_lt, leF, ltT, ltF, rd_sB, rd_sB0, wr_sB, wr_sB0, cn_l, cn_r, Option.toList, List.cons_append, List.nil_append, if_true, if_false, true_and, and_true, or_false, false_or, true_or, or_true, not_false_eq_true, not_true_eq_false, and_false, false_and, zb_0, zb_1, q10, h0, y1, c, g151_5, g151_9, g151_20]
  · simp only [c, if_false] at y1
    simp (disch := omega) only [aOk, eq_self, tk_sB, pr_sB, tk_wr, pr_wr, nQ_nat, nQ_neg, nQ_add, nQ_mul, nQ_lt, leF, ltT, ltF, rd_sB, rd_sB0, wr_sB, wr_sB0, cn_l, cn_r, Option.toList, List.cons_append, List.nil_append, if_true, if_false, true_and, and_true, or_false, false_or, true_or, or_true, not_false_eq_true, not_true_eq_false, and_false, false_and, zb_0, zb_1, q10, h0, y1, c, y4, g151_5, g151_9, g151_20]
end Mt
