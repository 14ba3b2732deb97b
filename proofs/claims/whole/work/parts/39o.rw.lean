/-! The relation of class and model. -/
def bkF (F : Nat → Int32) (k : Nat) : Nat → Int32 := fun i => F (357 * k + i)
theorem bk_0 (F : Nat → Int32) : bkF F 0 = F := funext fun i => congrArg F (by omega)
def StX (L : Nat) (xs : Nat → Int32) (τ : Mem) : Prop := (tkM τ 1 = (2, L) ∧ ∀ j, rdM τ 1 j = xs j) ∧ ∀ v, 2 ≤ v → v < 8 → tkM τ v = (2, (svM v).length) ∧ ∀ j, rdM τ v j = (svM v).getD j 0
def TxX (τ : Mem) : Prop := ∃ t N, TxM (rw_ τ 186) t N ∧ rdM τ 182 1 = nQ N ∧ ∀ i, i < N → rdM τ 183 i = nQ (t i)
def RW (L : Nat) (xs : Nat → Int32) (τ : Mem) : Prop := (WdX τ ∧ StX L xs τ) ∧ (∃ π c, (PmR τ π ∧ rdM τ 8 3 = nQ c ∧ c ≤ 6 ∧ rdM τ 186 2 = nQ c) ∧ RlS (rw_ τ 9) (bkF (rdM τ 187) 0) ∧ ∀ i, i < c → RlS (rw_ τ (44 + 17 * π i)) (bkF (rdM τ 187) (i + 1))) ∧ (∀ i, i < 2 → rdM τ 181 i = rdM τ 188 i ∧ (rdM τ 188 i = nQ 0 ∨ (rdM τ 188 i = nQ 1 ∧ RlS (rw_ τ (147 + 17 * i)) (bkF (rdM τ 187) (7 + i))))) ∧ TxX τ
theorem rdf_out {n : Nat} {σ : Mem} {b v : Nat} {d : Nat → Nat → Int32} (h : ¬ (b ≤ v ∧ v < b + n)) : rdM (sB n σ b d) v = rdM σ v := funext fun j => rd_out h j
theorem rdf_in {n : Nat} {σ : Mem} {b u : Nat} {d : Nat → Nat → Int32} (h : u < n) : rdM (sB n σ b d) (b + u) = d u := funext fun j => rd_sB h j
theorem rdf_wr {σ : Mem} {v w j : Nat} {x : Int32} (h : ¬ v = w) : rdM (wrM σ w j x) v = rdM σ v := funext fun i => if_neg (fun z => h z.1)
theorem rd_wr_s (σ : Mem) (w j : Nat) (x : Int32) : rdM (wrM σ w j x) w j = x := if_pos ⟨rfl, rfl⟩
theorem rw_cg {τ τ' : Mem} {a : Nat} (h : ∀ v, a ≤ v → v < a + 17 → rdM τ' v = rdM τ v) : ∀ u, u < 17 → rw_ τ' a u = rw_ τ a u := fun u hu => h (a + u) (by omega) (by omega)
theorem RS_d {d d' : Nat → Nat → Int32} {f : Nat → Int32} (h : RlS d f) (e : ∀ u, u < 17 → d' u = d u) : RlS d' f := RS_eq h (EqS_d (by unfold EqS; exact ⟨⟨rfl, rfl, rfl, rfl⟩, fun _ _ => rfl, fun _ _ => rfl, fun _ _ => ⟨rfl, rfl, rfl, rfl⟩, fun _ _ => rfl, fun _ _ => ⟨rfl, rfl, rfl, rfl⟩, fun _ _ => ⟨rfl, rfl, rfl⟩⟩) e)
theorem Tx_cg {τ τ' : Mem} (h : TxX τ) (h1 : rdM τ' 182 1 = rdM τ 182 1) (h2 : rdM τ' 183 = rdM τ 183) (h3 : rdM τ' 186 5 = rdM τ 186 5) (h4 : rdM τ' 189 = rdM τ 189) : TxX τ' := by
  obtain ⟨t, N, ⟨a1, a2, a3⟩, a4, a5⟩ := h
  refine ⟨t, N, ⟨h3.trans a1, a2, fun i hi => ?_⟩, h1.trans a4, fun i hi => by rw [h2]; exact a5 i hi⟩
  show rdM τ' 189 i = nQ (t i) ∧ _
  rw [h4]
  exact a3 i hi
theorem St_cg {L : Nat} {xs : Nat → Int32} {τ τ' : Mem} (h : StX L xs τ) (h1 : tkM τ' = tkM τ) (h2 : ∀ v, v < 8 → rdM τ' v = rdM τ v) : StX L xs τ' := by
  obtain ⟨⟨a1, a2⟩, a3⟩ := h
  refine ⟨⟨by rw [h1, a1], fun j => by rw [h2 1 (by decide)]; exact a2 j⟩, fun v hv hv' => ?_⟩
  rw [h1, h2 v hv']
  exact a3 v hv hv'
theorem kp_bk (F : Nat → Int32) {c : Nat} (h6 : c ≤ 6) {k j : Nat} (hk : k < 9) (h1 : 1 ≤ k) (hj : j < 357) : kpF F c (357 * k + j) = if c = 6 then (if k < 6 then F (357 * (k + 1) + j) else if k = 6 then F j else F (357 * k + j)) else if k = c + 1 then F j else F (357 * k + j) := by
  unfold kpF
  have hL : ∀ m, m ≤ 5 → kpL F m (357 * k + j) = if k ≤ m then F (357 * (k + 1) + j) else F (357 * k + j) := by
    intro m
    induction m with
    | zero => intro _; rw [if_neg (by omega)]; rfl
    | succ m ih =>
      intro hm
      rw [kpL_s]
      unfold cpF cpK
      by_cases e : k = m + 1
      · rw [if_pos (by omega), if_pos (by omega)]
        have : ∀ m, m ≤ 5 → ∀ i, 357 * (m + 1) ≤ i → kpL F m i = F i := by
          intro m
          induction m with
          | zero => intro _ i _; rfl
          | succ m ih =>
            intro hm i hi
            rw [kpL_s]
            unfold cpF cpK
            rw [if_neg (by omega)]
            exact ih (by omega) i (by omega)
        rw [this m (by omega) _ (by omega)]
        exact congrArg F (by omega)
      · rw [if_neg (by omega), ih (by omega)]
        by_cases e2 : k ≤ m
        · rw [if_pos e2, if_pos (by omega)]
        · rw [if_neg e2, if_neg (by omega)]
  by_cases hc : c = 6
  · rw [if_pos hc, if_pos hc]
    unfold cpF cpK
    by_cases e : k = 6
    · rw [if_pos (by omega), if_neg (by omega), if_pos e, kpL_lo _ (by omega)]
      exact congrArg F (by omega)
    · rw [if_neg (by omega), hL 5 (by omega)]
      by_cases e2 : k < 6
      · rw [if_pos (by omega), if_pos e2]
      · rw [if_neg (by omega), if_neg e2, if_neg e]
  · rw [if_neg hc, if_neg hc]
    unfold cpF cpK
    by_cases e : k = c + 1
    · rw [if_pos (by omega), if_pos e]
      exact congrArg F (by omega)
    · rw [if_neg (by omega), if_neg e]
section Rw
variable {L : Nat} {xs : Nat → Int32} {τ : Mem}
theorem RS_bool {d : Nat → Nat → Int32} {f : Nat → Int32} (h : RlS d f) : ∀ u, u < 6 → d 2 u = nQ 0 ∨ d 2 u = nQ 1 := by
  obtain ⟨n, hR, _⟩ := h
  intro u hu
  rw [hR.1.2.2 u hu]
  split
  · exact Or.inr rfl
  · exact Or.inl rfl
/-- a state is kept; and whatever then becomes of the present one -/
theorem RW_keep (h : RW L xs τ) : ∃ τ1 c, DoM 101 [.ref 8] τ = some (.inl none, τ1) ∧ (WdX τ1 ∧ StX L xs τ1) ∧ (rdM τ 186 2 = nQ c ∧ c ≤ 6) ∧ tkM τ1 = tkM τ ∧ (∀ v, v < 8 ∨ (9 ≤ v ∧ v < 44) ∨ 146 ≤ v → rdM τ1 v = rdM τ v) ∧
    ∀ σf : Mem, tkM σf = tkM τ1 → prM σf = prM τ1 → (∀ v, v < 8 ∨ (44 ≤ v ∧ v < 182) ∨ v = 183 ∨ v = 188 ∨ v = 189 → rdM σf v = rdM τ1 v) → rdM σf 8 3 = rdM τ1 8 3 → rdM σf 182 1 = rdM τ1 182 1 → rdM σf 186 5 = rdM τ1 186 5 → rdM σf 186 2 = nQ (csN c) → (∀ i, 357 ≤ i → rdM σf 187 i = kpF (rdM τ 187) c i) → RlS (rw_ σf 9) (rdM σf 187) → RW L xs σf := by
  obtain ⟨⟨hW, hS⟩, ⟨π, c, ⟨hP, hc, h6, hc2⟩, h0, hs⟩, hl, hT⟩ := h
  obtain ⟨τ1, π', y1, y2, y3, y4, y5, y6, y7, y8⟩ := c101 hW hP hc h6 (RS_bool h0)
  refine ⟨τ1, c, y1, ⟨y2, St_cg hS y4 (fun v hv => y6 v (by omega))⟩, ⟨hc2, h6⟩, y4, y6, fun σf f1 f2 f3 f4 f5 f6 f7 f8 f9 => ?_⟩
  have hc' : csN c ≤ 6 := by unfold csN; split <;> omega
  have hcu : cuN c + 1 = csN c := by unfold csN cuN; split <;> omega
  have hb0 : ∀ i, i < 357 → bkF (rdM τ 187) 0 i = rdM τ 187 i := fun i _ => by rw [bk_0]
  refine ⟨⟨Wd_cg y2 f1 (fun v hv => by rw [f2]), St_cg (St_cg hS y4 (fun v hv => y6 v (by omega))) f1 (fun v hv => f3 v (by omega))⟩, ⟨π', csN c, ⟨?_, by rw [f4, y5], hc', f7⟩, by rw [bk_0]; exact f9, fun i hi => ?_⟩, fun i hi => ?_, Tx_cg (Tx_cg hT (by rw [y6 182 (by omega)]) (y6 183 (by omega)) (by rw [y6 186 (by omega)]) (y6 189 (by omega))) f5 (f3 183 (by omega)) f6 (f3 189 (by omega))⟩
  · unfold PmR
    rw [f2]
    exact y3
  · have hrow : ∀ u, u < 17 → rw_ σf (44 + 17 * π' i) u = rw_ τ1 (44 + 17 * π' i) u := rw_cg (fun v h1 h2 => f3 v (by have := (y3.1 i (by omega)).2; omega))
    by_cases e : i = cuN c
    · subst e
      refine RS_d (RS_eq (RS_f h0 (fun j hj => ?_)) y7) hrow
      show rdM σf 187 (357 * (cuN c + 1) + j) = bkF (rdM τ 187) 0 j
      rw [hb0 j hj, f8 _ (by omega), kp_bk _ h6 (by omega) (by omega) hj]
      unfold cuN
      by_cases e6 : c = 6
      · rw [if_pos e6, if_pos e6, if_neg (by decide), if_pos rfl]
      · rw [if_neg e6, if_neg e6, if_pos rfl]
    · have hi' : i < cuN c := by omega
      have hq := y8 i hi'
      refine RS_d (RS_d (RS_f (hs (if c = 6 then i + 1 else i) (by unfold cuN at hi'; split <;> split at hi' <;> omega)) (fun j hj => ?_)) hq) hrow
      show rdM σf 187 (357 * (i + 1) + j) = rdM τ 187 (357 * ((if c = 6 then i + 1 else i) + 1) + j)
      rw [f8 _ (by omega), kp_bk _ h6 (by omega) (by omega) hj]
      unfold cuN at hi'
      by_cases e6 : c = 6
      · rw [if_pos e6] at hi'
        rw [if_pos e6, if_pos e6, if_pos (by omega)]
      · rw [if_neg e6] at hi'
        rw [if_neg e6, if_neg e6, if_neg (by omega)]
  · obtain ⟨g1, g2⟩ := hl i hi
    rw [f3 181 (by omega), f3 188 (by omega), y6 181 (by omega), y6 188 (by omega)]
    refine ⟨g1, ?_⟩
    rcases g2 with g2 | ⟨g2, g3⟩
    · exact Or.inl g2
    · refine Or.inr ⟨g2, RS_d (RS_d (RS_f g3 (fun j hj => ?_)) (rw_cg (fun v h1 h2 => y6 v (by omega)))) (rw_cg (fun v h1 h2 => f3 v (by omega)))⟩
      show rdM σf 187 (357 * (7 + i) + j) = rdM τ 187 (357 * (7 + i) + j)
      rw [f8 _ (by omega), kp_bk _ h6 (by omega) (by omega) hj]
      by_cases e6 : c = 6
      · rw [if_pos e6, if_neg (by omega), if_neg (by omega)]
      · rw [if_neg e6, if_neg (by omega)]
/-- nothing changed that counts -/
theorem RW_same (h : RW L xs τ) {σf : Mem} (f1 : tkM σf = tkM τ) (f2 : prM σf = prM τ) (f3 : ∀ v, v < 8 ∨ (9 ≤ v ∧ v < 26) ∨ (44 ≤ v ∧ v < 182) ∨ v = 183 ∨ (187 ≤ v ∧ v < 190) → rdM σf v = rdM τ v) (f4 : rdM σf 8 3 = rdM τ 8 3) (f5 : rdM σf 182 1 = rdM τ 182 1) (f6 : rdM σf 186 5 = rdM τ 186 5) (f7 : rdM σf 186 2 = rdM τ 186 2) : RW L xs σf := by
  obtain ⟨⟨hW, hS⟩, ⟨π, c, ⟨hP, hc, h6, hc2⟩, h0, hs⟩, hl, hT⟩ := h
  have e187 := f3 187 (by omega)
  refine ⟨⟨Wd_cg hW f1 (fun v hv => by rw [f2]), St_cg hS f1 (fun v hv => f3 v (by omega))⟩, ⟨π, c, ⟨?_, by rw [f4, hc], h6, by rw [f7, hc2]⟩, ?_, fun i hi => ?_⟩, fun i hi => ?_, Tx_cg hT f5 (f3 183 (by omega)) f6 (f3 189 (by omega))⟩
  · unfold PmR
    rw [f2]
    exact hP
  · rw [e187]
    exact RS_d h0 (rw_cg (fun v h1 h2 => f3 v (by omega)))
  · rw [e187]
    exact RS_d (hs i hi) (rw_cg (fun v h1 h2 => f3 v (by have := (hP.1 i (by omega)).2; omega)))
  · obtain ⟨g1, g2⟩ := hl i hi
    rw [f3 181 (by omega), f3 188 (by omega), e187]
    refine ⟨g1, ?_⟩
    rcases g2 with g2 | ⟨g2, g3⟩
    · exact Or.inl g2
    · exact Or.inr ⟨g2, RS_d g3 (rw_cg (fun v h1 h2 => f3 v (by omega)))⟩
end Rw
