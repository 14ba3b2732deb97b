/-! The class's reader of texts: commands, the error position. -/
def PoC (d d' : Nat → Nat → Int32) (i : Nat) (R : Nat × Option (List Nat)) : Prop := (∀ u, ¬ u = 0 → ¬ u = 2 → d' u = d u) ∧ d' 0 = up (d 0) 2 (nQ R.1) ∧ (∀ j, j < i → d' 2 j = d 2 j) ∧ ∀ vs, R.2 = some vs → ∀ j, j < vs.length → d' 2 (i + j) = nQ (vs.getD j 0)
section Da
variable {σ : Mem} {b : Nat} {d : Nat → Nat → Int32} {t : Nat → Nat} {L : Nat}
theorem c38_l (h : ShT σ b) (hS : StR σ) {l : Nat} (hl : l = 99 ∨ l = 114 ∨ l = 100 ∨ l = 109 ∨ l = 110) : ∀ (ws : List Nat) (i p : Nat) (d : Nat → Nat → Int32), (gtL l).drop i = ws → i ≤ 5 → TxC d t L → d 0 2 = nQ p → p ≤ L → ∃ d', RuM 38 (68, [some (.ref b), some (.ref (rfN l)), some (.int (nQ (if l = 110 then 1 else 0))), some (.int (nQ i))], [], 0, 0) (sB 3 σ b d) = some (.inl (some (.int (if (rpN t L (if l = 110 then 1 else 0) ws i p).2.isSome = true then nQ 1 else nQ 0))), sB 3 σ b d') ∧ PoC d d' i (rpN t L (if l = 110 then 1 else 0) ws i p) := by
  obtain ⟨h8, h0, p0, p4, t1, t2⟩ := id h
  have g := gt_ne hl
  have hb2 : 8 ≤ b + 2 := by omega
  obtain ⟨hr1, hr2⟩ := hS l
  intro ws
  induction ws with
  | nil =>
    intro i p d hd hi hT hp hpL
    have hlen := List.drop_eq_nil_iff.mp hd
    refine ⟨d, ?_, fun _ _ _ => rfl, ?_, fun _ _ => rfl, fun vs hv => ?_⟩
    · have c : ¬ i < (gtL l).length := by omega
      rw [g38_68]
      simp (disch := omega) only [aOk, eq_self, tk_sB, pr_sB, tk_wr, pr_wr, nQ_nat, nQ_neg, nQ_add, nQ_mul, nQ_lt, leF, ltT, ltF, rd_sB, rd_sB0, wr_sB, wr_sB0, cn_l, cn_r, Option.toList, List.cons_append, List.nil_append, if_true, if_false, true_and, and_true, or_false, false_or, true_or, or_true, not_false_eq_true, not_true_eq_false, and_false, false_and, zb_0, zb_1, q10, hr1, c, g38_126]
      rfl
    · show d 0 = up (d 0) 2 (nQ p)
      rw [← hp, up_i]
    · obtain rfl := Option.some.inj hv
      exact fun j hj => absurd hj (Nat.not_lt_zero j)
  | cons w ws ih =>
    intro i p d hd hi hT hp hpL
    have hlen : i < (gtL l).length := by
      rcases Nat.lt_or_ge i (gtL l).length with c | c
      · exact c
      · rw [List.drop_eq_nil_of_le c] at hd
        cases hd
    have hw : (gtL l).getD i 0 = w := by
      rw [List.drop_eq_getElem_cons hlen] at hd
      rw [List.getD_eq_getElem?_getD, List.getElem?_eq_getElem hlen]
      exact (List.cons.inj hd).1
    have hws : (gtL l).drop (i + 1) = ws := by
      rw [List.drop_eq_getElem_cons hlen] at hd
      exact (List.cons.inj hd).2
    have hi5 : i < 5 := by omega
    have w5 : w ≤ 5000 := hw ▸ g.2.2 i hlen
    have hrw : ∀ D : Nat → Nat → Int32, rdM (sB 3 σ b D) (rfN l) i = nQ w := fun D => by
      rw [rd_out (by have := rf_lt l; omega), hr2 i hlen, hw]
    have h100 := hT.2.1
    have K : ∀ (q : Nat) (D : Nat → Nat → Int32), TxC D t L → D 0 2 = nQ q → q ≤ L → (∀ u, ¬ u = 0 → D u = d u) → D 0 = up (d 0) 2 (nQ q) → ∃ d', RuM 38 (94, [some (.ref b), some (.ref (rfN l)), some (.int (nQ (if l = 110 then 1 else 0))), some (.int (nQ i))], [], 0, 0) (sB 3 σ b D) = some (.inl (some (.int (if (match nuN t L (if l = 110 then 1 else 0) w q with
        | none => ((q, none) : Nat × Option (List Nat))
        | some (q', v) => ((rpN t L (if l = 110 then 1 else 0) ws (i + 1) q').1, (rpN t L (if l = 110 then 1 else 0) ws (i + 1) q').2.map (v :: ·))).2.isSome = true then nQ 1 else nQ 0))), sB 3 σ b d') ∧ PoC d d' i (match nuN t L (if l = 110 then 1 else 0) w q with
        | none => ((q, none) : Nat × Option (List Nat))
        | some (q', v) => ((rpN t L (if l = 110 then 1 else 0) ws (i + 1) q').1, (rpN t L (if l = 110 then 1 else 0) ws (i + 1) q').2.map (v :: ·))) := by
      intro q D hT hq hqL hDu hD0
      have e47 := c41 h hT hq (by omega) (ls := if l = 110 then 1 else 0) (w := w) (by split <;> omega) w5
      rw [g38_94]
      cases hn : nuN t L (if l = 110 then 1 else 0) w q with
      | none =>
        rw [hn] at e47
        dsimp only at e47 ⊢
        refine ⟨rX D 2 (up (D 2) i (-1)), ?_, ?_⟩
        · simp (disch := omega) only [aOk, eq_self, tk_sB, pr_sB, tk_wr, pr_wr, nQ_nat, nQ_neg, nQ_add, nQ_mul, nQ_lt, leF, ltT, ltF, rd_sB, rd_sB0, wr_sB, wr_sB0, cn_l, cn_r, Option.toList, List.cons_append, List.nil_append, if_true, if_false, true_and, and_true, or_false, false_or, true_or, or_true, not_false_eq_true, not_true_eq_false, and_false, false_and, zb_0, zb_1, q10, h0, hr1, hrw, e47, p4, t2, hb2, rX_s, up_s, g38_107, g38_108]
          rfl
        · refine ⟨fun u h1 h2 => (rX_n h2).trans (hDu u h1), (rX_n (by omega)).trans hD0, fun j hj => ?_, fun vs hv => by cases hv⟩
          rw [rX_s, up_n (by omega), hDu 2 (by omega)]
      | some qv =>
        obtain ⟨q', v⟩ := qv
        rw [hn] at e47
        dsimp only at e47 ⊢
        have hle := nuN_le hn
        have hv0 := nQ_m1 (i := v) (by omega)
        obtain ⟨d', y1, y2, y3, y4, y5⟩ := ih (i + 1) q' (rX (acF D q') 2 (up (D 2) i (nQ v))) hws (by omega) hT rfl hle.1.2
        refine ⟨d', ?_, ?_⟩
        · simp (disch := omega) only [aOk, eq_self, tk_sB, pr_sB, tk_wr, pr_wr, nQ_nat, nQ_neg, nQ_add, nQ_mul, nQ_lt, leF, ltT, ltF, rd_sB, rd_sB0, wr_sB, wr_sB0, cn_l, cn_r, Option.toList, List.cons_append, List.nil_append, if_true, if_false, true_and, and_true, or_false, false_or, true_or, or_true, not_false_eq_true, not_true_eq_false, and_false, false_and, zb_0, zb_1, q10, h0, hr1, hrw, e47, p4, t2, hb2, rX_s, rX_n, up_s, hv0, g38_107, g38_108]
          rw [y1]
          simp only [Option.isSome_map]
        · refine ⟨fun u h1 h2 => ?_, ?_, fun j hj => ?_, fun vs hv => ?_⟩
          · rw [y2 u h1 h2, rX_n h2]
            exact (rX_n h1).trans (hDu u h1)
          · rw [y3, rX_n (by omega)]
            show up (up (D 0) 2 (nQ q')) 2 (nQ (rpN t L (if l = 110 then 1 else 0) ws (i + 1) q').1) = up (d 0) 2 (nQ (rpN t L (if l = 110 then 1 else 0) ws (i + 1) q').1)
            rw [up_up, hD0, up_up]
          · rw [y4 j (by omega), rX_s, up_n (by omega), hDu 2 (by omega)]
          · cases hr : (rpN t L (if l = 110 then 1 else 0) ws (i + 1) q').2 with
            | none => rw [hr] at hv; cases hv
            | some vs' =>
              rw [hr] at hv
              obtain rfl := Option.some.inj hv
              intro j hj
              cases j with
              | zero => rw [Nat.add_zero, y4 i (by omega), rX_s, up_s]; rfl
              | succ j =>
                have := y5 vs' hr j (Nat.lt_of_succ_lt_succ hj)
                rw [show i + (j + 1) = i + 1 + j by omega, this]
                rfl
    rw [g38_68]
    unfold rpN
    by_cases ci : 0 < i
    · have e46 := c40 h hT hp (by omega) (c := 44) (by omega) (by omega)
      by_cases cs : sgN t L p = 44
      · have hlt := sg_lt (t := t) (L := L) (p := p) (by omega)
        obtain ⟨d', y1, y2⟩ := K (p + 1) (acF d (p + 1)) hT rfl (by omega) (fun u hu => rX_n hu) rfl
        refine ⟨d', ?_, ?_⟩
        · simp (disch := omega) only [cs, ci, aOk, eq_self, tk_sB, pr_sB, tk_wr, pr_wr, nQ_nat, nQ_neg, nQ_add, nQ_mul, nQ_lt, leF, ltT, ltF, rd_sB, rd_sB0, wr_sB, wr_sB0, cn_l, cn_r, Option.toList, List.cons_append, List.nil_append, if_true, if_false, true_and, and_true, or_false, false_or, true_or, or_true, not_false_eq_true, not_true_eq_false, and_false, false_and, zb_0, zb_1, q10, h0, hr1, hlen, hi5, e46, q10, g38_89]
          exact y1
        · rw [if_neg (fun z : 0 < i ∧ ¬ sgN t L p = 44 => z.2 cs)]
          simp only [ci, if_true]
          exact y2
      · refine ⟨d, ?_, ?_⟩
        · rw [if_pos (show 0 < i ∧ ¬ sgN t L p = 44 from ⟨ci, cs⟩)]
          simp (disch := omega) only [cs, ci, aOk, eq_self, tk_sB, pr_sB, tk_wr, pr_wr, nQ_nat, nQ_neg, nQ_add, nQ_mul, nQ_lt, leF, ltT, ltF, rd_sB, rd_sB0, wr_sB, wr_sB0, cn_l, cn_r, Option.toList, List.cons_append, List.nil_append, if_true, if_false, true_and, and_true, or_false, false_or, true_or, or_true, not_false_eq_true, not_true_eq_false, and_false, false_and, zb_0, zb_1, q10, h0, hr1, hlen, hi5, e46, ac_i hp, g38_89]
          rfl
        · rw [if_pos (show 0 < i ∧ ¬ sgN t L p = 44 from ⟨ci, cs⟩)]
          refine ⟨fun _ _ _ => rfl, ?_, fun _ _ => rfl, fun vs hv => by cases hv⟩
          show d 0 = up (d 0) 2 (nQ p)
          rw [← hp, up_i]
    · obtain ⟨d', y1, y2⟩ := K p d hT hp hpL (fun u hu => rfl) (by rw [← hp, up_i])
      refine ⟨d', ?_, ?_⟩
      · simp (disch := omega) only [ci, aOk, eq_self, tk_sB, pr_sB, tk_wr, pr_wr, nQ_nat, nQ_neg, nQ_add, nQ_mul, nQ_lt, leF, ltT, ltF, rd_sB, rd_sB0, wr_sB, wr_sB0, cn_l, cn_r, Option.toList, List.cons_append, List.nil_append, if_true, if_false, true_and, and_true, or_false, false_or, true_or, or_true, not_false_eq_true, not_true_eq_false, and_false, false_and, zb_0, zb_1, q10, h0, hr1, hlen, hi5]
        exact y1
      · rw [if_neg (fun z : 0 < i ∧ ¬ sgN t L p = 44 => ci z.1)]
        simp only [ci, if_false]
        exact y2
/-- what a command leaves: its letter too, if there is one -/
theorem c38 (h : ShT σ b) (hS : StR σ) (hT : TxC d t L) {p : Nat} (hp : d 0 2 = nQ p) (hpL : p ≤ L) : ∃ d', DoM 38 [.ref b] (sB 3 σ b d) = some (.inl (some (.int (if (rcN t L p).2.isSome = true then nQ 1 else nQ 0))), sB 3 σ b d') ∧ (∀ u, ¬ u = 0 → ¬ u = 2 → d' u = d u) ∧ d' 0 1 = d 0 1 ∧ d' 0 2 = nQ (rcN t L p).1 ∧ ∀ vs, (rcN t L p).2 = some vs → d' 0 3 = nQ (sgN t L p) ∧ ∀ j, j < vs.length → d' 2 j = nQ (vs.getD j 0) := by
  obtain ⟨h8, h0, p0, p4, t1, t2⟩ := id h
  obtain ⟨hL, h100, hch⟩ := id hT
  have hs := sgC_le hT p
  have hlt := sg_lt (t := t) (L := L) (p := p)
  unfold rcN
  by_cases c0 : p < L
  · obtain ⟨e1, e2, e3⟩ := hch p c0
    have es : sgN t L p = t p := if_pos c0
    rw [es] at hlt hs ⊢
    have q1 : nQ 0 ≤ nQ (t p) ∧ nQ (t p) < nQ 65536 := ⟨by rw [Int32.le_iff_toInt_le, nQ_int (by decide), nQ_int (by omega)]; omega, by rw [nQ_lt (by omega) (by decide)]; omega⟩
    have q1a := eq_true q1.1
    have q1b := eq_true q1.2
    have e39 : ∀ σ' : Mem, DoM 39 [.int (nQ (t p))] σ' = some (.inl (some (.ref (rfN (t p)))), σ') := fun σ' => c39 (by omega)
    obtain ⟨hr1, hr2⟩ := hS (t p)
    have x0 : DoM 38 [.ref b] (sB 3 σ b d) = RuM 38 (33, [some (.ref b), none, none, none], [.ref (rfN (t p))], 0, 0) (sB 3 σ b (rX d 0 (up (d 0) 3 (nQ (t p))))) := by
      refine (g38_0).trans ?_
      simp (disch := omega) only [aOk, tk_sB, pr_sB, cn_l, Option.toList, List.cons_append, List.nil_append, if_true, true_and, and_true, rd_sB0, rd_sB, wr_sB0, h0, p0, t1, hL, hp, nQ_lt, c0, nQ_nat, nQ_neg, leF, or_false, not_false_eq_true, e1, q1a, nQ_lt, show t p < 65536 by omega, rX_s, up_s, e39, g38_26]
    rw [x0]
    by_cases c : gtL (t p) = []
    · rw [if_pos c]
      refine ⟨rX d 0 (up (d 0) 3 (nQ (t p))), ?_, fun u h1 _ => rX_n h1, rfl, hp, fun vs hv => by cases hv⟩
      rw [c] at hr1
      rw [g38_33]
      simp (disch := omega) only [tk_sB, hr1, if_true, List.length_nil]
      rfl
    · rw [if_neg c]
      have hl := gt_lt c
      have el : (nQ (t p) = nQ 110) = (t p = 110) := nQ_eq (by omega) (by decide)
      have g := gt_ne hl
      have hn0 : (nQ (gtL (t p)).length = nQ 0) = False := by rw [nQ_eq (by omega) (by decide)]; exact eq_false (by omega)
      obtain ⟨d', y1, y2, y3, y4, y5⟩ := c38_l (σ := σ) (t := t) (L := L) h hS hl (gtL (t p)) 0 (p + 1) (acF (rX d 0 (up (d 0) 3 (nQ (t p)))) (p + 1)) rfl (by decide) hT rfl (by omega)
      refine ⟨d', ?_, fun u h1 h2 => (y2 u h1 h2).trans ((rX_n h1).trans (rX_n h1)), ?_, ?_, fun vs hv => ⟨?_, fun j hj => ?_⟩⟩
      · rw [← y1, g38_33]
        rcases Classical.propComplete (t p = 110) with c1 | c1 <;> simp (disch := omega) only [aOk, eq_self, tk_sB, pr_sB, tk_wr, pr_wr, nQ_nat, nQ_neg, nQ_add, nQ_mul, nQ_lt, leF, ltT, ltF, rd_sB, rd_sB0, wr_sB, wr_sB0, cn_l, cn_r, Option.toList, List.cons_append, List.nil_append, if_true, if_false, true_and, and_true, or_false, false_or, true_or, or_true, not_false_eq_true, not_true_eq_false, and_false, false_and, zb_0, zb_1, q10, h0, hr1, hn0, hp, rX_s, up_s, up_n, rX_r, el, c1, g38_51, g38_65]
      · rw [y3, up_n (by decide)]
        rfl
      · rw [y3, up_s]
      · rw [y3, up_n (by decide)]
        rfl
      · have := y5 vs hv j hj
        rwa [Nat.zero_add] at this
  · have es : sgN t L p = 0 := if_neg c0
    rw [es, if_pos (show gtL 0 = [] from rfl)]
    refine ⟨d, ?_, fun _ _ _ => rfl, rfl, hp, fun vs hv => by cases hv⟩
    refine (g38_0).trans ?_
    simp (disch := omega) only [aOk, eq_self, tk_sB, pr_sB, tk_wr, pr_wr, nQ_nat, nQ_neg, nQ_add, nQ_mul, nQ_lt, leF, ltT, ltF, rd_sB, rd_sB0, wr_sB, wr_sB0, cn_l, cn_r, Option.toList, List.cons_append, List.nil_append, if_true, if_false, true_and, and_true, or_false, false_or, true_or, or_true, not_false_eq_true, not_true_eq_false, and_false, false_and, zb_0, zb_1, q10, h0, hL, hp, c0]
    rfl
end Da
