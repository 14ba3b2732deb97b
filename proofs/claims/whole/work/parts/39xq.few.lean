/-! The fewest deletions, on both sides. -/
def SG (p : Nat → Bool) (w : Nat → Int32) : Nat → List Int32
  | 0 => []
  | i + 1 => if p i = true then w i :: SG p w i else SG p w i
def suI : List Int32 → Int32
  | [] => nQ 0
  | x :: l => x + suI l
theorem SG_s (p : Nat → Bool) (w : Nat → Int32) (i : Nat) : SG p w (i + 1) = if p i = true then w i :: SG p w i else SG p w i := rfl
theorem SG_cg {p p' : Nat → Bool} {w w' : Nat → Int32} : ∀ n, (∀ i, i < n → p i = p' i ∧ (p i = true → w i = w' i)) → SG p w n = SG p' w' n
  | 0, _ => rfl
  | n + 1, h => by
    rw [SG_s, SG_s, SG_cg n (fun i hi => h i (by omega)), ← (h n (by omega)).1]
    split
    · next c => rw [(h n (by omega)).2 c]
    · rfl
theorem SG_mem {p : Nat → Bool} {w : Nat → Int32} {x : Int32} : ∀ {n}, x ∈ SG p w n ↔ ∃ i, i < n ∧ p i = true ∧ w i = x
  | 0 => ⟨fun h => (List.not_mem_nil h).elim, fun ⟨i, hi, _⟩ => absurd hi (Nat.not_lt_zero i)⟩
  | n + 1 => by
    have ih := SG_mem (p := p) (w := w) (x := x) (n := n)
    rw [SG_s]
    constructor
    · intro h
      split at h
      · next c =>
        rcases List.mem_cons.mp h with rfl | h
        · exact ⟨n, by omega, c, rfl⟩
        · obtain ⟨i, h1, h2⟩ := ih.mp h
          exact ⟨i, by omega, h2⟩
      · obtain ⟨i, h1, h2⟩ := ih.mp h
        exact ⟨i, by omega, h2⟩
    · rintro ⟨i, h1, h2, h3⟩
      by_cases e : i = n
      · subst e
        rw [if_pos h2, h3]
        exact List.mem_cons_self
      · have := ih.mpr ⟨i, by omega, h2, h3⟩
        split
        · exact List.mem_cons_of_mem _ this
        · exact this
theorem SG_rm {p p' : Nat → Bool} {w w' : Nat → Int32} {j : Nat} (hj : p j = true) (hj' : p' j = false) (hp : ∀ i, ¬ i = j → p' i = p i ∧ w' i = w i) : ∀ n, j < n → (w j :: SG p' w' n).Perm (SG p w n)
  | 0, h => absurd h (Nat.not_lt_zero j)
  | n + 1, h => by
    rw [SG_s, SG_s]
    by_cases e : j = n
    · subst e
      rw [if_pos hj, if_neg (by rw [hj']; decide)]
      rw [SG_cg (p' := p) (w' := w) j (fun i hi => ⟨(hp i (by omega)).1, fun _ => (hp i (by omega)).2⟩)]
    · have ih := SG_rm (w := w) (w' := w') hj hj' hp n (by omega)
      obtain ⟨e1, e2⟩ := hp n (fun z => e z.symm)
      rw [e1, e2]
      split
      · exact (List.Perm.swap _ _ _).trans (ih.cons _)
      · exact ih
theorem su_perm {l l' : List Int32} (p : l.Perm l') : suI l = suI l' := by
  induction p with
  | nil => rfl
  | cons x _ ih => show x + _ = x + _; rw [ih]
  | swap x y l =>
    show y + (x + suI l) = x + (y + suI l)
    rw [← Int32.add_assoc, ← Int32.add_assoc, Int32.add_comm y]
  | trans _ _ h1 h2 => exact h1.trans h2
theorem SG_Lq (g : Nat → QdM) (a : Int32) : ∀ n, (SG (fun i => decide (chQ a (g i))) (fun i => (g i).2.2.2) n).Perm ((Lq g n).filterMap fun x => if chQ a x then some x.2.2.2 else none)
  | 0 => List.Perm.refl _
  | n + 1 => by
    have ih := SG_Lq g a n
    rw [SG_s, Lq_s, List.filterMap_append]
    by_cases c : chQ a (g n)
    · rw [if_pos (decide_eq_true c), show List.filterMap (fun x => if chQ a x then some x.2.2.2 else none) [g n] = [(g n).2.2.2] by simp only [List.filterMap_cons, c, if_true, List.filterMap_nil]]
      exact (ih.cons _).trans (List.perm_append_comm (l₁ := [(g n).2.2.2]))
    · rw [if_neg (by simp only [decide_eq_true_eq]; exact c), show List.filterMap (fun x => if chQ a x then some x.2.2.2 else none) [g n] = [] by simp only [List.filterMap_cons, c, if_false, List.filterMap_nil], List.append_nil]
      exact ih
abbrev mdP (f e : Nat → Int32) (a : Int32) : Nat → Bool := fun i => decide (chP f a i ∧ e i = nQ 0)
abbrev szF (f : Nat → Int32) : Nat → Int32 := fun i => f (5 + 4 * i + 3)
theorem us_SG (f e : Nat → Int32) (a : Int32) : ∀ n, (∀ i, i < n → e i = nQ 0) → usF f a 0 n = suI (SG (mdP f e a) (szF f) n)
  | 0, _ => rfl
  | n + 1, h => by
    rw [usF_s, SG_s, us_SG f e a n (fun i hi => h i (by omega))]
    by_cases c : chP f a n
    · rw [if_pos (decide_eq_true ⟨c, h n (by omega)⟩), if_pos c, if_pos rfl, Int32.add_comm]
      rfl
    · rw [if_neg c, if_neg (show ¬ (mdP f e a n = true) from fun z => c (of_decide_eq_true z).1)]
      exact Int32.add_zero _
theorem la_max {f e : Nat → Int32} {a : Int32} {n : Nat} (hI : InvA f n) : ∀ i, i ≤ n → match laO f e a i with
    | none => ∀ y, y < i → ¬ (chP f a y ∧ e y = nQ 0)
    | some j => j < i ∧ (chP f a j ∧ e j = nQ 0) ∧ ∀ y, y < i → chP f a y ∧ e y = nQ 0 → leQ (qM f y) (qM f j)
  | 0, _ => fun y hy => absurd hy (Nat.not_lt_zero y)
  | i + 1, hi => by
    have ih := la_max (e := e) (a := a) hI i (by omega)
    rw [la_s]
    cases hl : laO f e a i with
    | none =>
      rw [hl] at ih
      dsimp only at ih ⊢
      by_cases c : chP f a i ∧ e i = nQ 0
      · rw [if_pos c]
        refine ⟨by omega, c, fun y hy hc => ?_⟩
        by_cases ey : y = i
        · subst ey; exact leQ_r _
        · exact absurd hc (ih y (by omega))
      · rw [if_neg c]
        intro y hy
        by_cases ey : y = i
        · subst ey; exact c
        · exact ih y (by omega)
    | some j =>
      rw [hl] at ih
      dsimp only at ih ⊢
      obtain ⟨h1, h2, h3⟩ := ih
      obtain ⟨-, -, zi, -, -, hi5, -, -, ei⟩ := hI.1 i (by omega)
      obtain ⟨-, -, zj, -, -, hj5, -, -, ej⟩ := hI.1 j (by omega)
      have hb := bt_le2 (f := f) (j := j) (i := i) ei ej hi5 hj5
      by_cases c : btP f j i ∧ chP f a i ∧ e i = nQ 0
      · rw [if_pos c]
        refine ⟨by omega, c.2, fun y hy hc => ?_⟩
        by_cases ey : y = i
        · subst ey; exact leQ_r _
        · have q1 := h3 y (by omega) hc
          have q2 := hb.mp c.1
          unfold leQ at q1 q2 ⊢
          omega
      · rw [if_neg c]
        refine ⟨by omega, h2, fun y hy hc => ?_⟩
        by_cases ey : y = i
        · subst ey
          exact Classical.byContradiction fun q => c ⟨hb.mpr q, hc⟩
        · exact h3 y (by omega) hc
abbrev nmP (r : Nat → Int32) : Nat → Bool := fun i => decide (¬ r i = -1)
section Qa
variable {τ : Mem}
theorem c103r (t185 : tkM τ 185 = (2, 60)) {cnt : Nat} (h0 : 0 < cnt) (h60 : cnt ≤ 60) (D : Nat → Nat → Int32) : ∃ p, p < cnt ∧ (∀ i, i < cnt → (D 0 i).toInt ≤ (D 0 p).toInt) ∧ DoM 103 [.ref 185, .int (nQ cnt)] (sB 1 τ 185 D) = some (.inl (some (.int (D 0 p))), sB 1 τ 185 (rX D 0 (up (D 0) p (-1)))) := by
  have L : ∀ (m i p : Nat), i + m = cnt → 0 < i → p < i → (∀ y, y < i → (D 0 y).toInt ≤ (D 0 p).toInt) → ∃ p', p' < cnt ∧ (∀ i, i < cnt → (D 0 i).toInt ≤ (D 0 p').toInt) ∧ RuM 103 (4, [some (.ref 185), some (.int (nQ cnt)), some (.int (nQ p)), some (.int (nQ i))], [], 0, 0) (sB 1 τ 185 D) = some (.inl (some (.int (D 0 p'))), sB 1 τ 185 (rX D 0 (up (D 0) p' (-1)))) := by
    intro m
    induction m with
    | zero =>
      intro i p hi h0 hp hm
      obtain rfl : i = cnt := by omega
      refine ⟨p, hp, hm, ?_⟩
      rw [g103_4]
      simp (disch := omega) only [aOk, tk_sB, t185, nQ_lt, nQ_nat, nQ_neg, leF, Nat.lt_irrefl, rd_sB0, wr_sB0, if_true, if_false, true_and, and_true, or_false, false_or, not_false_eq_true, Nat.reduceLeDiff, g103_34]
    | succ m ih =>
      intro i p hi h0 hp hm
      have hlt : i < cnt := by omega
      by_cases c : D 0 p < D 0 i
      · have c' := Int32.lt_iff_toInt_lt.mp c
        obtain ⟨p', y1, y2, y3⟩ := ih (i + 1) i (by omega) (by omega) (by omega) (fun y hy => by
          by_cases e : y = i
          · subst e; exact Int.le_refl _
          · have := hm y (by omega)
            omega)
        refine ⟨p', y1, y2, ?_⟩
        rw [← y3, g103_4]
        simp (disch := omega) only [aOk, tk_sB, t185, nQ_lt, nQ_nat, nQ_neg, nQ_add, leF, hlt, c, rd_sB0, wr_sB0, if_true, if_false, true_and, and_true, or_false, false_or, not_false_eq_true, Nat.reduceLeDiff, g103_20]
      · have c' : ¬ (D 0 p).toInt < (D 0 i).toInt := fun z => c (Int32.lt_iff_toInt_lt.mpr z)
        obtain ⟨p', y1, y2, y3⟩ := ih (i + 1) p (by omega) (by omega) (by omega) (fun y hy => by
          by_cases e : y = i
          · subst e; omega
          · exact hm y (by omega))
        refine ⟨p', y1, y2, ?_⟩
        rw [← y3, g103_4]
        simp (disch := omega) only [aOk, tk_sB, t185, nQ_lt, nQ_nat, nQ_neg, nQ_add, leF, hlt, c, rd_sB0, wr_sB0, if_true, if_false, true_and, and_true, or_false, false_or, not_false_eq_true, Nat.reduceLeDiff, g103_20]
  obtain ⟨p, y1, y2, y3⟩ := L (cnt - 1) 1 0 (by omega) (by omega) (by omega) (fun y hy => by
    obtain rfl : y = 0 := by omega
    exact Int.le_refl _)
  exact ⟨p, y1, y2, (g103_0).trans y3⟩
theorem c11r (hs : ShS τ 9) (t185 : tkM τ 185 = (2, 60)) {n : Nat} (hn : rw_ τ 9 8 0 = nQ n) (h60 : n ≤ 60) (hz : ∀ i, i < n → 0 ≤ (rw_ τ 9 12 i).toInt) (a : Int32) : ∃ D cnt, cnt ≤ n ∧ DoM 11 [.ref 17, .int a, .ref 185] τ = some (.inl (some (.int (nQ cnt))), sB 1 τ 185 D) ∧ (∀ i, i < cnt → 0 ≤ (D 0 i).toInt) ∧ SG (nmP (D 0)) (D 0) cnt = SG (fun i => decide (chC (rw_ τ 9) a i)) (rw_ τ 9 12) n := by
  have L : ∀ (m i c : Nat) (D : Nat → Nat → Int32), i + m = n → c ≤ i → (∀ j, j < c → 0 ≤ (D 0 j).toInt) → SG (nmP (D 0)) (D 0) c = SG (fun i => decide (chC (rw_ τ 9) a i)) (rw_ τ 9 12) i → ∃ D' cnt, cnt ≤ n ∧ RuM 11 (5, [some (.ref 17), some (.int a), some (.ref 185), some (.int (nQ c)), some (.int (nQ i))], [], 0, 0) (sB 1 τ 185 D) = some (.inl (some (.int (nQ cnt))), sB 1 τ 185 D') ∧ (∀ i, i < cnt → 0 ≤ (D' 0 i).toInt) ∧ SG (nmP (D' 0)) (D' 0) cnt = SG (fun i => decide (chC (rw_ τ 9) a i)) (rw_ τ 9 12) n := by
    intro m
    induction m with
    | zero =>
      intro i c D hi hc hD hS
      obtain rfl : i = n := by omega
      refine ⟨D, c, hc, ?_, hD, hS⟩
      have e0 : rdM (sB 1 τ 185 D) 17 0 = nQ i := (rd_out (by omega) 0).trans hn
      have k1 : tkM τ 17 = (1, 1) := hs.2.1.2.1
      rw [g11_5]
      simp (disch := omega) only [tk_sB, k1, e0, nQ_lt, Nat.lt_irrefl, if_true, if_false, g11_49]
    | succ m ih =>
      intro i c D hi hc hD hS
      have hlt : i < n := by omega
      have e0 : rdM (sB 1 τ 185 D) 17 0 = nQ n := (rd_out (by omega) 0).trans hn
      have k1 : tkM τ 17 = (1, 1) := hs.2.1.2.1
      have p4 : prM τ 17 4 = 21 := hs.2.2.2.1.2.2.2
      have k4 : tkM τ 21 = (2, 60) := hs.2.2.2.2.2.2.1.2.2.2
      have e4 : rdM (sB 1 τ 185 D) 21 i = rw_ τ 9 12 i := rd_out (by omega) i
      have e9 := c9 (σ := sB 1 τ 185 D) (d := rw_ (sB 1 τ 185 D) 9) (b := 9) hs (i := i) (by omega) a
      rw [sB_rw] at e9
      have ech : chC (rw_ (sB 1 τ 185 D) 9) a i = chC (rw_ τ 9) a i := by
        show (rdM (sB 1 τ 185 D) (9 + 10) i = a ∨ nQ 6 + rdM (sB 1 τ 185 D) (9 + 11) i = a) = _
        rw [rd_out (by omega), rd_out (by omega)]
        rfl
      have zi := hz i hlt
      rcases Classical.propComplete (chC (rw_ τ 9) a i) with cc | cc
      · simp only [ech, cc, if_true] at e9
        have nm : ¬ rw_ τ 9 12 i = -1 := fun z => by
          rw [z] at zi
          exact absurd zi (by decide)
        obtain ⟨D', cnt, y1, y2, y3⟩ := ih (i + 1) (c + 1) (rX D 0 (up (D 0) c (rw_ τ 9 12 i))) (by omega) (by omega) (fun j hj => by
          rw [rX_s]
          by_cases e : j = c
          · rw [e, up_s]; exact zi
          · rw [up_n e]; exact hD j (by omega)) (by
          rw [rX_s, SG_s, SG_s, if_pos (by rw [decide_eq_true_eq, up_s]; exact nm), if_pos (decide_eq_true (of_eq_true cc)), up_s, ← hS]
          refine congrArg _ (SG_cg c (fun j hj => ?_))
          have : up (D 0) c (rw_ τ 9 12 i) j = D 0 j := up_n (by omega)
          dsimp only [nmP]
          rw [this]
          exact ⟨rfl, fun _ => rfl⟩)
        refine ⟨D', cnt, y1, ?_, y3⟩
        rw [← y2, g11_5]
        simp (disch := omega) only [aOk, tk_sB, pr_sB, k1, p4, k4, t185, e0, e4, e9, hlt, nQ_lt, nQ_nat, nQ_neg, nQ_add, leF, wr_sB0, cn_l, Option.toList, List.nil_append, List.cons_append, if_true, if_false, true_and, and_true, or_false, false_or, not_false_eq_true, q10, Nat.reduceLeDiff, show c < 60 by omega, g11_27, g11_40, g11_43]
      · simp only [ech, cc, if_false] at e9
        obtain ⟨D', cnt, y1, y2, y3⟩ := ih (i + 1) c D (by omega) (by omega) hD (by
          rw [SG_s, if_neg (by rw [decide_eq_true_eq]; exact of_eq_false cc)]
          exact hS)
        refine ⟨D', cnt, y1, ?_, y3⟩
        rw [← y2, g11_5]
        simp (disch := omega) only [aOk, tk_sB, pr_sB, k1, p4, k4, t185, e0, e4, e9, hlt, nQ_lt, nQ_nat, nQ_neg, nQ_add, leF, cn_l, Option.toList, List.nil_append, List.cons_append, if_true, if_false, true_and, and_true, or_false, false_or, not_false_eq_true, show c < 60 by omega, g11_27, g11_43]
  obtain ⟨D, cnt, y1, y2, y3⟩ := L n 0 0 (rw_ τ 185) (by omega) (Nat.le_refl 0) (fun j hj => absurd hj (Nat.not_lt_zero j)) rfl
  rw [sB_rw] at y2
  exact ⟨D, cnt, y1, (g11_0).trans y2, y3⟩
end Qa
