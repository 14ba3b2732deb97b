/-! The fewest deletions, on both sides: the loop. -/
theorem SG_nil {p : Nat → Bool} {w : Nat → Int32} {n i : Nat} (h : SG p w n = []) (hi : i < n) : ¬ p i = true := fun c => by
  have : w i ∈ SG p w n := SG_mem.mpr ⟨i, hi, c, rfl⟩
  rw [h] at this
  exact List.not_mem_nil this
section Ra
variable {L : Nat} {xs : Nat → Int32} {τ : Mem}
theorem few_l {f : Nat → Int32} {n a cnt s : Nat} (hI : InvA f n) (w1 : tkM τ 8 = (1, 4)) (w7 : prM τ 8 7 = 185) (t185 : tkM τ 185 = (2, 60)) (h60 : cnt ≤ 60) (hs : s ≤ 100000) (hs0 : ¬ s = 0) (b : Int32) : ∀ (c i6 : Nat) (D : Nat → Nat → Int32) (e : Nat → Int32), i6 + c = cnt → (SG (nmP (D 0)) (D 0) cnt).length = c → (∀ i, i < cnt → D 0 i = -1 ∨ 0 ≤ (D 0 i).toInt) → (SG (nmP (D 0)) (D 0) cnt).Perm (SG (mdP f e (nQ a)) (szF f) n) → ∃ k D', RuM 69 (57, [some (.ref 8), some (.int (nQ a)), some (.int b), some (.int (nQ s)), some (.int (nQ cnt)), some (.int (suI (SG (mdP f e (nQ a)) (szF f) n))), some (.int (nQ i6))], [], 1, 6) (sB 1 τ 185 D) = some (.inl (some (.int (nQ (i6 + k)))), sB 1 τ 185 D') ∧ fwN f n (nQ a) (nQ s) (c + 1) e (suI (SG (mdP f e (nQ a)) (szF f) n)) = some k := by
  have hs1 : ¬ nQ s = nQ 0 := by rw [nQ_eq (by omega) (by decide)]; exact hs0
  intro c
  induction c with
  | zero =>
    intro i6 D e hi hlen hD hP
    have e1 := List.length_eq_zero_iff.mp hlen
    rw [e1] at hP
    have e2 : SG (mdP f e (nQ a)) (szF f) n = [] := List.Perm.eq_nil hP.symm
    rw [e2]
    have hlt : ¬ nQ s < suI [] := by
      show ¬ nQ s < nQ 0
      rw [nQ_lt (by omega) (by decide)]
      omega
    refine ⟨0, D, ?_, if_pos (Or.inr hlt)⟩
    rw [g69_57]
    simp only [hlt, if_false, g69_90, Nat.add_zero]
  | succ c ih =>
    intro i6 D e hi hlen hD hP
    by_cases cu : nQ s < suI (SG (mdP f e (nQ a)) (szF f) n)
    · obtain ⟨p, q1, q2, q3⟩ := c103r (τ := τ) t185 (cnt := cnt) (by omega) h60 D
      have hne : ∃ i, i < cnt ∧ ¬ D 0 i = -1 := by
        cases hl : SG (nmP (D 0)) (D 0) cnt with
        | nil => rw [hl] at hlen; cases hlen
        | cons x l =>
          have hx : x ∈ SG (nmP (D 0)) (D 0) cnt := by rw [hl]; exact List.mem_cons_self
          obtain ⟨i, h1, h2, -⟩ := SG_mem.mp hx
          exact ⟨i, h1, of_decide_eq_true h2⟩
      obtain ⟨i0, hi0, hn0⟩ := hne
      have hp0 : 0 ≤ (D 0 p).toInt := by
        have := q2 i0 hi0
        rcases hD i0 hi0 with z | z
        · exact absurd z hn0
        · omega
      have hpn : ¬ D 0 p = -1 := fun z => by
        rw [z] at hp0
        exact absurd hp0 (by decide)
      have hrm := SG_rm (p := nmP (D 0)) (p' := nmP (up (D 0) p (-1))) (w := D 0) (w' := up (D 0) p (-1)) (j := p) (decide_eq_true hpn) (decide_eq_false (fun z => z (up_s _ _ _))) (fun i hi => by
        have : up (D 0) p (-1) i = D 0 i := up_n hi
        dsimp only [nmP]
        rw [this]
        exact ⟨rfl, rfl⟩) cnt q1
      have hla := la_max (e := e) (a := nQ a) hI n (Nat.le_refl n)
      have hmem : D 0 p ∈ SG (mdP f e (nQ a)) (szF f) n := hP.mem_iff.mp (SG_mem.mpr ⟨p, q1, decide_eq_true hpn, rfl⟩)
      obtain ⟨y, y1, y2, y3⟩ := SG_mem.mp hmem
      have y2' := of_decide_eq_true y2
      cases hl : laO f e (nQ a) n with
      | none =>
        rw [hl] at hla
        exact absurd y2' (hla y y1)
      | some j =>
        rw [hl] at hla
        obtain ⟨j1, j2, j3⟩ := hla
        have hj := SG_rm (p := mdP f e (nQ a)) (p' := mdP f (up e j (nQ 1)) (nQ a)) (w := szF f) (w' := szF f) (j := j) (decide_eq_true j2) (decide_eq_false (fun z => by
          have := z.2
          rw [up_s] at this
          exact absurd this (by decide))) (fun i hi => by
          have : up e j (nQ 1) i = e i := up_n hi
          dsimp only [mdP]
          rw [this]
          exact ⟨rfl, rfl⟩) n j1
        have ev : szF f j = D 0 p := by
          obtain ⟨x, x1, x2, x3⟩ := SG_mem.mp (hP.mem_iff.mpr (SG_mem.mpr ⟨j, j1, decide_eq_true j2, rfl⟩) : szF f j ∈ _)
          have q := q2 x x1
          have q' := j3 y y1 y2'
          have e1 : (qM f y).2.2.2 = D 0 p := y3
          have e2 : (qM f j).2.2.2 = szF f j := rfl
          unfold leQ at q'
          rw [e1, e2] at q'
          rw [x3] at q
          exact toI_eq (by omega) (by omega)
        rw [ev] at hj
        have hP' := List.Perm.cons_inv (hrm.trans (hP.trans hj.symm))
        have hsum : suI (SG (mdP f e (nQ a)) (szF f) n) - D 0 p = suI (SG (mdP f (up e j (nQ 1)) (nQ a)) (szF f) n) := by
          rw [← su_perm hj]
          show D 0 p + _ - D 0 p = _
          rw [Int32.add_comm, Int32.add_sub_cancel]
        obtain ⟨k, D', z1, z2⟩ := ih (i6 + 1) (rX D 0 (up (D 0) p (-1))) (up e j (nQ 1)) (by omega) (by
          rw [rX_s]
          have := hrm.length_eq
          rw [hlen, List.length_cons] at this
          omega) (fun i hi => by
          rw [rX_s]
          by_cases ei : i = p
          · rw [ei, up_s]; exact Or.inl rfl
          · rw [up_n ei]; exact hD i hi) hP'
        refine ⟨k + 1, D', ?_, ?_⟩
        · rw [show i6 + (k + 1) = i6 + 1 + k by omega, ← z1, g69_57]
          simp (disch := omega) only [cu, nQ_lt, show i6 < cnt by omega, tk_sB, pr_sB, w1, w7, q3, hsum, nQ_add, cn_l, Option.toList, List.nil_append, List.cons_append, if_true, g69_81]
        · have : fwN f n (nQ a) (nQ s) (c + 1 + 1) e (suI (SG (mdP f e (nQ a)) (szF f) n)) = (if nQ s = nQ 0 ∨ ¬ nQ s < suI (SG (mdP f e (nQ a)) (szF f) n) then some 0 else match laO f e (nQ a) n with
              | none => none
              | some j => (fwN f n (nQ a) (nQ s) (c + 1) (up e j (nQ 1)) (suI (SG (mdP f e (nQ a)) (szF f) n) - f (5 + 4 * j + 3))).map (· + 1)) := rfl
          rw [this, if_neg (fun z => z.elim hs1 (fun z => z cu)), hl]
          dsimp only
          rw [show f (5 + 4 * j + 3) = D 0 p from ev, hsum, z2]
          rfl
    · refine ⟨0, D, ?_, if_pos (Or.inr cu)⟩
      rw [g69_57]
      simp only [cu, if_false, g69_90, Nat.add_zero]
theorem s69 (h : RW L xs τ) (v : Int32) : StW L xs 212 168 [.int v] τ := by
  obtain ⟨n, hR, hF, hI⟩ := RW_n h
  have hM : ShM τ 186 := h.1.1.2.2.2
  have w1 : tkM τ 8 = (1, 4) := h.1.1.1.1
  have w2 : prM τ 8 0 = 9 := h.1.1.1.2.1
  have w7 : prM τ 8 7 = 185 := h.1.1.1.2.2.2.2.2.2.2
  have t185 : tkM τ 185 = (2, 60) := h.1.1.2.2.1.2.2.2.2.2.2.2.2.1
  have w0 : tkM τ 193 = (5, 1) := h.1.1.2.2.1.2.2.2.2.2.2.2.2.2
  have hs : ShS τ 9 := h.1.1.2.1.1
  by_cases hx : inP v (nQ 0) (nQ 8)
  · obtain ⟨a, ha, rfl⟩ := in_ex hx (by decide)
    have hn60 := hF.2.2.1
    obtain ⟨s, s', hs1, -, es, -⟩ := hI.1.2.2.2 (2 * a) (by omega)
    have r4 : rdM τ 13 (2 * a) = nQ s := ((hR.2.1 (2 * a) (by omega)).2.1).trans es
    have c98' : ∀ σ' : Mem, DoM 98 [.int (nQ a), .int (nQ 0)] σ' = some (.inl (some (.int (nQ (2 * a)))), σ') := fun σ' => c98 a 0
    have p4 : prM τ 9 4 = 13 := hs.2.2.1.2.2.2.1
    have p3 : prM τ 9 3 = 12 := hs.2.2.1.2.2.1
    have p8 : prM τ 9 8 = 17 := hs.2.2.1.2.2.2.2.2.2.2.1
    have k0 : tkM τ 9 = (1, 2) := hs.2.1.1
    have k8 : tkM τ 17 = (1, 1) := hs.2.1.2.1
    have t4 : tkM τ 13 = (2, 18) := hs.2.2.2.2.2.1.2.2.2.1
    have t3 : tkM τ 12 = (2, 18) := hs.2.2.2.2.2.1.2.2.1
    obtain ⟨e0, he0⟩ : ∃ e0 : Nat → Int32, e0 = fun i => if i < 60 then nQ 0 else rw_ τ 186 6 i := ⟨_, rfl⟩
    have he : ∀ i, i < n → e0 i = nQ 0 := fun i hi => by rw [he0]; exact if_pos (by omega)
    have X : ∃ k m D, DoM 69 [.ref 8, .int (nQ a)] τ = some (.inl (some (.int (nQ k))), sB 1 τ 185 D) ∧ fwN (rdM τ 187) n (nQ a) (nQ s) m e0 (usF (rdM τ 187) (nQ a) 0 n) = some k := by
      by_cases s0 : s = 0
      · subst s0
        refine ⟨0, 1, rw_ τ 185, ?_, if_pos (Or.inl rfl)⟩
        rw [sB_rw]
        refine (g69_0).trans ?_
        simp (disch := omega) only [c89, eq_true hx, c98', w1, w2, k0, p4, t4, r4, aOk, nQ_nat, nQ_neg, leF, cn_l, Option.toList, List.nil_append, List.cons_append, if_true, if_false, true_and, and_true, or_false, false_or, not_false_eq_true, g69_4, g69_9]
      · have s0' : (nQ s = nQ 0) = False := by rw [nQ_eq (by omega) (by decide)]; exact eq_false s0
        have hz : ∀ i, i < n → 0 ≤ (rw_ τ 9 12 i).toInt := fun i hi => by
          obtain ⟨j, hj, e⟩ := fl_to hF hi
          obtain ⟨-, -, zi, -, -, hi5, -, -, ei⟩ := hI.1.1 j hj
          have : rw_ τ 9 12 i = nQ zi := (congrArg (·.2.2.2) e).symm.trans ei
          rw [this, nQ_int (by omega)]
          omega
        obtain ⟨D, cnt, hc1, hc2, hc3, hc4⟩ := c11r (τ := τ) hs t185 (n := n) hF.1 hn60 hz (nQ a)
        have hP : (SG (nmP (D 0)) (D 0) cnt).Perm (SG (mdP (rdM τ 187) e0 (nQ a)) (szF (rdM τ 187)) n) := by
          rw [hc4]
          have q1 := SG_Lq (qC (rw_ τ 9)) (nQ a) n
          have q2 := SG_Lq (qM (rdM τ 187)) (nQ a) n
          have q3 := (hF.2.2.2).filterMap (fun x => if chQ (nQ a) x then some x.2.2.2 else none)
          have q4 : SG (mdP (rdM τ 187) e0 (nQ a)) (szF (rdM τ 187)) n = SG (fun i => decide (chQ (nQ a) (qM (rdM τ 187) i))) (fun i => (qM (rdM τ 187) i).2.2.2) n := SG_cg n (fun i hi => ⟨by
            have := he i hi
            by_cases cc : chP (rdM τ 187) (nQ a) i
            · exact (decide_eq_true ⟨cc, this⟩).trans (decide_eq_true cc).symm
            · exact (decide_eq_false (fun z => cc z.1)).trans (decide_eq_false cc).symm, fun _ => rfl⟩)
          rw [q4]
          exact q1.trans (q3.trans q2.symm)
        have hlen : (SG (nmP (D 0)) (D 0) cnt).length = cnt := by
          have : ∀ m, m ≤ cnt → (SG (nmP (D 0)) (D 0) m).length = m := by
            intro m
            induction m with
            | zero => intro _; rfl
            | succ m ih =>
              intro hm
              have hnm : ¬ D 0 m = -1 := fun z => by
                have := hc3 m (by omega)
                rw [z] at this
                exact absurd this (by decide)
              rw [SG_s, if_pos (decide_eq_true hnm), List.length_cons, ih (by omega)]
          exact this cnt (Nat.le_refl _)
        have hus : usF (rdM τ 187) (nQ a) 0 n = suI (SG (mdP (rdM τ 187) e0 (nQ a)) (szF (rdM τ 187)) n) := us_SG _ _ _ n he
        have r3 : rdM (sB 1 τ 185 D) 12 (2 * a) = suI (SG (mdP (rdM τ 187) e0 (nQ a)) (szF (rdM τ 187)) n) := by
          rw [rd_out (by omega), ← hus]
          refine ((hR.2.1 (2 * a) (by omega)).1).trans ?_
          show usF (rdM τ 187) (nQ (2 * a / 2)) (2 * a - 2 * a / 2 * 2) n = _
          rw [show 2 * a / 2 = a by omega, show 2 * a - a * 2 = 0 by omega]
        obtain ⟨k, D', z1, z2⟩ := few_l (τ := τ) (f := rdM τ 187) (n := n) (a := a) (cnt := cnt) (s := s) hI.1 w1 w7 t185 (by omega) hs1 s0 (nQ (2 * a)) cnt 0 D e0 (by omega) hlen (fun i hi => Or.inr (hc3 i hi)) hP
        refine ⟨k, cnt + 1, D', ?_, by rw [hus]; exact z2⟩
        rw [Nat.zero_add] at z1
        rw [← z1]
        refine (g69_0).trans ?_
        simp (disch := omega) only [c89, eq_true hx, c98', w1, w2, w7, k0, k8, p4, p3, p8, t4, t3, r4, r3, s0', hc2, tk_sB, pr_sB, aOk, nQ_nat, nQ_neg, leF, cn_l, Option.toList, List.nil_append, List.cons_append, if_true, if_false, true_and, and_true, or_false, false_or, not_false_eq_true, g69_4, g69_9, g69_41]
    obtain ⟨k, m, D, hc, hk⟩ := X
    have hcq : ClQ τ (sB 1 τ 185 D) := ⟨rfl, rfl, fun v hv => rdf_out (by omega), rd_out (by omega) 1⟩
    rw [he0, ← es] at hk
    obtain ⟨e, e'⟩ := m168_0 (σ := wrM (sB 1 τ 185 D) 193 0 (nQ k)) (d := rw_ τ 186) hM hF.2.1 hn60 (a := a) (m := m) (k := k) (by omega) hk
    exact StW_Q h hcq (w212_r w1 (show tkM (sB 1 τ 185 D) 193 = (5, 1) from w0) hc) e' ⟨rfl, rfl, rfl, rfl, rfl⟩ rfl
  · refine StW_E h (k := 1) (by decide) (by decide) (w212_E1 w1 ?_) (m168_1 hM hx)
    refine (g69_0).trans ?_
    simp only [c89, eq_false hx, if_false, cn_r]
end Ra
