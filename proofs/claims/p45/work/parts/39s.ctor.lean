/-! The class's states as they are made. -/
theorem d0_ (σ : Mem) (r : Nat) : DoM 0 [.ref r] σ = RuM 0 (0, [some (.ref r)], [], 0, 0) σ := rfl
theorem d4_ (σ : Mem) (r : Nat) : DoM 4 [.ref r] σ = RuM 4 (0, [some (.ref r)], [], 0, 0) σ := rfl
theorem nx_wr (σ : Mem) (v j : Nat) (x : Int32) : nxM (wrM σ v j x) = nxM σ := rfl
theorem nx_wp (σ : Mem) (v j x : Nat) : nxM (wpM σ v j x) = nxM σ := rfl
theorem nx_nw (σ : Mem) (k n : Nat) : nxM (nwM σ k n) = nxM σ + 1 := rfl
/-- the least that a memory keeps -/
def Grw (σ σ' : Mem) (n : Nat) : Prop := ∀ v, v < n → tkM σ' v = tkM σ v ∧ prM σ' v = prM σ v ∧ rdM σ' v = rdM σ v
theorem Gr_b {n : Nat} {σ : Mem} {b : Nat} {κ : Nat → Nat × Nat} {d : Nat → Nat → Int32} {P : Nat → Nat → Nat} : Grw σ (bM n σ b κ d P) b := fun v hv => by
  refine ⟨?_, ?_, ?_⟩
  · exact if_neg (by omega)
  · funext i
    exact if_neg (by omega)
  · funext i
    exact if_neg (by omega)
def fwD (m M : Nat) (x : Int32) (f : Nat → Int32) : Nat → Int32 := fun i => if m ≤ i ∧ i < M then x else f i
theorem fl_z (m : Nat) (x : Int32) (f : Nat → Int32) : fwD m m x f = f := by
  funext i
  exact if_neg (by omega)
theorem fl_st (m M : Nat) (x : Int32) (f : Nat → Int32) (h : m < M) : fwD (m + 1) M x (up f m x) = fwD m M x f := by
  funext i
  unfold fwD up
  by_cases c : i = m
  · rw [if_neg (by omega), if_pos c, if_pos (by omega)]
  · rw [if_neg c]
    by_cases c2 : m ≤ i ∧ i < M
    · rw [if_pos c2, if_pos (by omega)]
    · rw [if_neg c2, if_neg (by omega)]
section Ka
variable {n : Nat} {σ : Mem} {b : Nat} {κ : Nat → Nat × Nat} {P : Nat → Nat → Nat}
theorem c14_r (h8 : 8 ≤ b) (hn : 2 ≤ n) (hκ : κ 0 = (1, 2)) (hκ1 : κ 1 = (2, 2)) (hP : P 0 1 = b + 1) (kc ks : Nat) (hK : kc = 1 ∧ ks = 2) : ∀ (m i : Nat) (d : Nat → Nat → Int32), i + m = 2 → RuM 14 (18, [some (.ref b), some (.int (nQ i))], [], kc, ks) (bM n σ b κ d P) = RuM 14 (18, [some (.ref b), some (.int (nQ 2))], [], kc, ks) (bM n σ b κ (rX d 1 (fwD i 2 (nQ 7) (d 1))) P) := by
  obtain ⟨rfl, rfl⟩ := hK
  intro m
  induction m with
  | zero =>
    intro i d hi
    obtain rfl : i = 2 := by omega
    rw [fl_z, rX_i]
  | succ m ih =>
    intro i d hi
    have e := ih (i + 1) (rX d 1 (up (d 1) i (nQ 7))) (by omega)
    rw [rX_s, rX_r, fl_st _ _ _ _ (by omega)] at e
    rw [← e]
    clear e ih
    have h1 : 8 ≤ b + 1 := by omega
    rw [g14_18]
    simp (disch := omega) only [aOk, nQ_lt, nQ_nat, nQ_neg, nQ_add, tk_b0, tk_b, pr_b0, wr_b, hκ, hκ1, hP, h1, if_true, true_and, and_true, not_false_eq_true, eq_self, leF, false_or, show i < 2 by omega, g14_31]
theorem c14_s (h8 : 8 ≤ b) (hn : 7 ≤ n) (hκ : κ 0 = (1, 2)) (hκ1 : κ 6 = (2, 18)) (hP : P 0 6 = b + 6) (kc ks : Nat) (hK : kc = 6 ∧ ks = 80) : ∀ (m i : Nat) (d : Nat → Nat → Int32), i + m = 18 → RuM 14 (79, [some (.ref b), some (.int (nQ i))], [], kc, ks) (bM n σ b κ d P) = RuM 14 (79, [some (.ref b), some (.int (nQ 18))], [], kc, ks) (bM n σ b κ (rX d 6 (fwD i 18 (-1) (d 6))) P) := by
  obtain ⟨rfl, rfl⟩ := hK
  intro m
  induction m with
  | zero =>
    intro i d hi
    obtain rfl : i = 18 := by omega
    rw [fl_z, rX_i]
  | succ m ih =>
    intro i d hi
    have e := ih (i + 1) (rX d 6 (up (d 6) i (-1))) (by omega)
    rw [rX_s, rX_r, fl_st _ _ _ _ (by omega)] at e
    rw [← e]
    clear e ih
    have h1 : 8 ≤ b + 6 := by omega
    rw [g14_79]
    simp (disch := omega) only [aOk, nQ_lt, nQ_nat, nQ_neg, nQ_add, tk_b0, tk_b, pr_b0, wr_b, hκ, hκ1, hP, h1, if_true, true_and, and_true, not_false_eq_true, eq_self, leF, false_or, show i < 18 by omega, g14_92]
end Ka
theorem Nw_b {σ : Mem} {b : Nat} {κ : Nat → Nat × Nat} {d : Nat → Nat → Int32} {P : Nat → Nat → Nat} (h : NwS d) : NwS (rw_ (bM 17 σ b κ d P) b) := by
  have hr : ∀ u, u < 17 → rw_ (bM 17 σ b κ d P) b u = d u := fun u hu => funext fun j => rd_b hu j
  unfold NwS
  rw [hr 0 (by decide), hr 1 (by decide), hr 2 (by decide), hr 3 (by decide), hr 4 (by decide), hr 5 (by decide), hr 6 (by decide), hr 7 (by decide), hr 8 (by decide), hr 13 (by decide)]
  exact h
theorem fwD_i {m M i : Nat} (x : Int32) (f : Nat → Int32) (h : m ≤ i ∧ i < M) : fwD m M x f i = x := if_pos h
theorem c14 {σ : Mem} {b : Nat} (h8 : 8 ≤ b) (hn : nxM σ = b + 1) (ht : tkM σ b = (1, 2)) : ∃ σ', DoM 14 [.ref b] σ = some (.inl none, σ') ∧ ShS σ' b ∧ NwS (rw_ σ' b) ∧ nxM σ' = b + 17 ∧ Grw σ σ' b := by
  have e := bM_self hn
  have hb : ¬ b = 0 := by omega
  have hk0 : (fun u => tkM σ (b + u)) 0 = (1, 2) := ht
  generalize (fun u => tkM σ (b + u)) = κ at e hk0
  generalize (fun u => prM σ (b + u)) = P at e
  generalize rw_ σ b = d at e
  have y : DoM 14 [.ref b] (bM 1 σ b κ d P) = _ := (rfl : DoM 14 [.ref b] (bM 1 σ b κ d P) = RuM 14 (0, [some (.ref b), none], [], 0, 0) (bM 1 σ b κ d P)).trans (g14_0)
  simp (disch := omega) only [h8, hb, hk0, tk_b0, wr_b0, nw_b, nx_b, wp_b0, uK_s, uK_n, eq_self, Nat.zero_le, not_false_eq_true, true_and, and_true, if_true, Nat.reduceAdd, g14_9, g14_13, g14_16] at y
  rw [c14_r h8 (by omega) ((uK_n (by decide)).trans hk0) (uK_s _ _ _) (uP_s _ _ _ _) 1 2 ⟨rfl, rfl⟩ 2 0 _ rfl, g14_18] at y
  simp (disch := omega) only [h8, hb, hk0, tk_b0, wr_b0, nw_b, nx_b, wp_b0, uK_s, uK_n, eq_self, Nat.zero_le, not_false_eq_true, true_and, and_true, if_true, if_false, Nat.reduceAdd, nQ_lt, Nat.lt_irrefl, rX_s, rX_n, rX_r, g14_42, g14_45, g14_50, g14_53, g14_58, g14_61, g14_66, g14_69, g14_74, g14_77] at y
  rw [c14_s h8 ?hx0 ?hx1 ?hx2 ?hx3 6 80 ⟨rfl, rfl⟩ 18 0 _ rfl, g14_79] at y
  case hx0 => decide
  case hx1 => simp (disch := omega) only [uK_s, uK_n, hk0]
  case hx2 => simp (disch := omega) only [uK_s, uK_n, hk0]
  case hx3 => simp (disch := omega) only [uP_s, uP_n, uZ_n]
  simp (disch := omega) only [h8, hb, hk0, tk_b, tk_b0, wr_b, wr_b0, nw_b, nx_b, wp_b, wp_b0, cn_l, Option.toList, List.nil_append, List.cons_append, uK_s, uK_n, eq_self, Nat.zero_le, not_false_eq_true, true_and, and_true, if_true, if_false, nQ_lt, Nat.lt_irrefl, Nat.reduceAdd, show ¬ b + 8 = 0 by omega, show ¬ b + 13 = 0 by omega, d4_, d0_, g0_0, g4_0, g0_9, g0_14, g0_19, g0_22, g0_27, g0_30, g0_35, g0_38, g4_9, g4_14, g4_17, g4_22, g4_25, g4_30, g4_33, g4_38, g4_41, rX_s, rX_n, rX_r, g14_103, g14_106, g14_110, g14_114, g14_117, g14_121, g14_125, g14_128] at y
  rw [e] at y
  refine ⟨_, y, ?_, ?_, rfl, Gr_b⟩
  · unfold ShS
    simp (disch := omega) only [h8, tk_b0, tk_b, pr_b0, pr_b, uK_s, uK_n, uP_s, uP_n, uZ_n, hk0, eq_self, true_and, and_true]
  · refine Nw_b ?_
    unfold NwS
    simp (disch := omega) only [rX_s, rX_n, up_s, up_n, eq_self, true_and, and_true]
    refine ⟨fun r hr => fwD_i _ _ ⟨by omega, hr⟩, fun _ => rfl, fun _ => ⟨rfl, rfl, rfl⟩, fun k hk => fwD_i _ _ ⟨by omega, hk⟩, fun _ => rfl⟩
