/-! What holds of every state that the law reaches. -/
def GY (f : Nat → Int32) (t : Nat) : Prop := f 0 = nQ t ∧ ∀ k, k < 18 → f (281 + k) = -1 ∨ ∃ s, s ≤ t ∧ f (281 + k) = nQ s
def GK (f : Nat → Int32) (n : Nat) : Prop := ∀ i, i < n → ∃ v w, v < 2 ∧ w < 10 ∧ f (5 + 4 * i) = nQ (100 * v + w)
def GC (f : Nat → Int32) (n : Nat) : Prop := ∀ k, k < 18 → ¬ f (245 + k) = nQ 0 ∧ f (245 + k) < usF f (nQ (k / 2)) (k - k / 2 * 2) n → ¬ f (281 + k) = -1
def GL (f : Nat → Int32) : Prop := ∀ r, r < 2 → ∃ g, 1 ≤ g ∧ g ≤ 60 ∧ f (1 + r) = nQ g
def GX (f : Nat → Int32) (n T : Nat) : Prop := ((∃ t, t ≤ T ∧ GY f t) ∧ GK f n ∧ GC f n ∧ GL f) ∧ f 4 = nQ n ∧ n ≤ 60
theorem GX_T {f : Nat → Int32} {n T T' : Nat} (h : GX f n T) (hT : T ≤ T') : GX f n T' := by
  obtain ⟨⟨⟨t, a1, a2⟩, a3, a4, a5⟩, a6⟩ := h
  exact ⟨⟨⟨t, Nat.le_trans a1 hT, a2⟩, a3, a4, a5⟩, a6⟩
theorem GY_cg {f f' : Nat → Int32} {t : Nat} (h : GY f t) (h0 : f' 0 = f 0) (e : ∀ i, 281 ≤ i → i < 299 → f' i = f i) : GY f' t := ⟨h0.trans h.1, fun k hk => by rw [e (281 + k) (by omega) (by omega)]; exact h.2 k hk⟩
theorem GK_cg {f f' : Nat → Int32} {n : Nat} (h : GK f n) (e : ∀ i, i < n → f' (5 + 4 * i) = f (5 + 4 * i)) : GK f' n := fun i hi => by rw [e i hi]; exact h i hi
theorem GL_cg {f f' : Nat → Int32} (h : GL f) (e : ∀ i, 1 ≤ i → i < 3 → f' i = f i) : GL f' := fun r hr => by rw [e (1 + r) (by omega) (by omega)]; exact h r hr
theorem GC_cg {f f' : Nat → Int32} {n : Nat} (h60 : n ≤ 60) (h : GC f n) (e : ∀ i, 5 ≤ i → i < 299 → f' i = f i) : GC f' n := by
  intro k hk
  rw [e (245 + k) (by omega) (by omega), e (281 + k) (by omega) (by omega), us_c2 h60 _ _ (fun i h1 h2 => e i h1 (by omega))]
  exact h k hk
theorem GX_cg {f f' : Nat → Int32} {n T : Nat} (h : GX f n T) (e : ∀ i, i < 299 → f' i = f i) : GX f' n T := by
  obtain ⟨⟨⟨t, a1, a2⟩, a3, a4, a5⟩, a6, a7⟩ := h
  exact ⟨⟨⟨t, a1, GY_cg a2 (e 0 (by decide)) (fun i _ h2 => e i h2)⟩, GK_cg a3 (fun i hi => e _ (by omega)), GC_cg a7 a4 (fun i _ h2 => e i h2), GL_cg a5 (fun i _ h2 => e i (by omega))⟩, (e 4 (by decide)).trans a6, a7⟩
theorem rv_st (f : Nat → Int32) (n : Nat) {k j : Nat} (hk : k < 18) (hj : j < 18) : rvF f n (k / 2) (k - k / 2 * 2) (281 + j) = f (281 + j) ∨ rvF f n (k / 2) (k - k / 2 * 2) (281 + j) = f 0 ∨ rvF f n (k / 2) (k - k / 2 * 2) (281 + j) = -1 := by
  rw [← rv_k f (fun k => usF f (nQ (k / 2)) (k - k / 2 * 2) n) rfl]
  unfold rvU
  split
  · rw [lg_lo _ _ _ _ (by omega)]
    by_cases e : j = k
    · rw [e, up_s]; exact Or.inr (Or.inl rfl)
    · rw [up_n (by omega)]; exact Or.inl rfl
  · split
    · rw [lg_lo _ _ _ _ (by omega)]
      by_cases e : j = k
      · rw [e, up_s]; exact Or.inr (Or.inr rfl)
      · rw [up_n (by omega)]; exact Or.inl rfl
    · exact Or.inl rfl
theorem GY_rv {f : Nat → Int32} {n t k : Nat} (hk : k < 18) (h : GY f t) : GY (rvF f n (k / 2) (k - k / 2 * 2)) t := by
  refine ⟨(q_rv f n _ _ (by omega) (Or.inl (by decide))).trans h.1, fun j hj => ?_⟩
  rcases rv_st f n hk hj with e | e | e
  · rw [e]; exact h.2 j hj
  · rw [e]; exact Or.inr ⟨t, Nat.le_refl t, h.1⟩
  · exact Or.inl e
theorem GY_rA {f : Nat → Int32} {n t : Nat} (h : GY f t) : ∀ k, k ≤ 18 → GY (rvA f n k) t
  | 0, _ => h
  | k + 1, hk => by
    rw [rvA_s]
    exact GY_rv (by omega) (GY_rA h k (by omega))
theorem nQ_m1' {t : Nat} (h : t < 2147483648) : ¬ nQ t = -1 := by
  rw [nQ_m1 h]
  exact fun z => z
theorem GC_rv {f : Nat → Int32} {n k : Nat} (h60 : n ≤ 60) (hk : k < 18) (j : Nat) (hj : j < 18) (h0 : ¬ f 0 = -1) (h : ¬ j = k → ¬ f (245 + j) = nQ 0 ∧ f (245 + j) < usF f (nQ (j / 2)) (j - j / 2 * 2) n → ¬ f (281 + j) = -1) : ¬ rvF f n (k / 2) (k - k / 2 * 2) (245 + j) = nQ 0 ∧ rvF f n (k / 2) (k - k / 2 * 2) (245 + j) < usF (rvF f n (k / 2) (k - k / 2 * 2)) (nQ (j / 2)) (j - j / 2 * 2) n → ¬ rvF f n (k / 2) (k - k / 2 * 2) (281 + j) = -1 := by
  have q : ∀ i, i < 281 → rvF f n (k / 2) (k - k / 2 * 2) i = f i := fun i hi => q_rv f n _ _ (by omega) (Or.inl hi)
  rw [q (245 + j) (by omega), us_c2 h60 _ _ (fun i h1 h2 => q i (by omega))]
  rw [← rv_k f (fun k => usF f (nQ (k / 2)) (k - k / 2 * 2) n) rfl]
  unfold rvU
  dsimp only
  by_cases e : j = k
  · subst e
    intro hc
    split
    · rw [lg_lo _ _ _ _ (by omega), up_s]
      exact h0
    · next c =>
      split
      · next c2 => exact absurd hc c2.1
      · exact fun z => c ⟨hc, z⟩
  · have h := h e
    split
    · rw [lg_lo _ _ _ _ (by omega), up_n (by omega)]
      exact h
    · split
      · rw [lg_lo _ _ _ _ (by omega), up_n (by omega)]
        exact h
      · exact h
theorem GC_rA (f : Nat → Int32) {n : Nat} (h60 : n ≤ 60) (h0 : ¬ f 0 = -1) : GC (rvA f n 18) n := by
  have L : ∀ k, k ≤ 18 → ∀ j, j < k → ¬ rvA f n k (245 + j) = nQ 0 ∧ rvA f n k (245 + j) < usF (rvA f n k) (nQ (j / 2)) (j - j / 2 * 2) n → ¬ rvA f n k (281 + j) = -1 := by
    intro k
    induction k with
    | zero => intro _ j hj; omega
    | succ k ih =>
      intro hk j hj
      rw [rvA_s]
      exact GC_rv h60 (by omega) j (by omega) (by rw [q_rA f n (Or.inl (by decide)) k (by omega)]; exact h0) (fun e => ih (by omega) j (by omega))
  exact fun k hk => L 18 (Nat.le_refl _) k hk
/-- all reviewed -/
theorem GX_rA {f : Nat → Int32} {n T t : Nat} (h60 : n ≤ 60) (hT : t ≤ T) (hT2 : T < 100000) (hY : GY f t) (hK : GK f n) (hL : GL f) (h4 : f 4 = nQ n) : GX (rvA f n 18) n T := by
  refine ⟨⟨⟨t, hT, GY_rA hY 18 (Nat.le_refl _)⟩, GK_cg hK (fun i hi => q_rA f n (Or.inl (by omega)) 18 (Nat.le_refl _)), GC_rA f h60 ?_, GL_cg hL (fun i _ hi => q_rA f n (Or.inl (by omega)) 18 (Nat.le_refl _))⟩, (q_rA f n (Or.inl (by decide)) 18 (Nat.le_refl _)).trans h4, h60⟩
  rw [hY.1]
  exact nQ_m1' (by omega)
section Gd
variable {f : Nat → Int32} {n T : Nat}
theorem GX_rf (h : GX f n T) (ri : Nat → Int32) {u g : Nat} (hu : u < 6) (hg : g < 3) : GX (rfF f n ri u g) n T := GX_cg h (fun i hi => rf_lo f n ri hu hg (Or.inl hi))
theorem GX_cr (hT2 : T < 100000) (h60 : n < 60) (h : GX f n T) (ri : Nat → Int32) {u g v w : Nat} (hu : u < 6) (hg : g < 3) (hv : v < 2) (hw : w < 10) (z : Int32) : GX (crF f n ri u g (nQ (100 * v + w)) z) (crN f n ri u g) T := by
  unfold crF crN
  split
  · obtain ⟨⟨⟨t, a1, a2⟩, a3, a4, a5⟩, a6, a7⟩ := h
    refine GX_rA (by omega) a1 hT2 (GY_cg a2 ?_ (fun i h1 h2 => ?_)) (fun i hi => ?_) (GL_cg a5 (fun i h1 h2 => ?_)) ?_
    · simp (disch := omega) only [up_n]
    · simp (disch := omega) only [up_n]
    · by_cases c : i = n
      · subst c
        refine ⟨v, w, hv, hw, ?_⟩
        simp (disch := omega) only [up_n, up_s]
      · simp (disch := omega) only [up_n]
        exact a3 i (by omega)
    · simp (disch := omega) only [up_n]
    · rw [up_s]
  · exact GX_rf h ri hu hg
theorem GX_rs (hT2 : T < 100000) (h : GX f n T) (ri : Nat → Int32) {u g j : Nat} (hu : u < 6) (hg : g < 3) (hj : j < n) (z : Int32) : GX (rsF f n ri u g j z) n T := by
  unfold rsF
  split
  · obtain ⟨⟨⟨t, a1, a2⟩, a3, a4, a5⟩, a6, a7⟩ := h
    exact GX_rA a7 a1 hT2 (GY_cg a2 (up_n (by omega)) (fun i h1 h2 => up_n (by omega))) (GK_cg a3 (fun i hi => up_n (by omega))) (GL_cg a5 (fun i h1 h2 => up_n (by omega))) ((up_n (by omega)).trans a6)
  · exact GX_rf h ri hu hg
theorem GX_mv (hT2 : T < 100000) (h : GX f n T) (ri : Nat → Int32) {u g j : Nat} (hu : u < 6) (hg : g < 3) (hj : j < n) : GX (mvF f n ri u g j) n T := by
  unfold mvF
  split
  · obtain ⟨⟨⟨t, a1, a2⟩, a3, a4, a5⟩, a6, a7⟩ := h
    exact GX_rA a7 a1 hT2 (GY_cg a2 (by rw [up_n (by omega), up_n (by omega)]) (fun i h1 h2 => by rw [up_n (by omega), up_n (by omega)])) (GK_cg a3 (fun i hi => by rw [up_n (by omega), up_n (by omega)])) (GL_cg a5 (fun i h1 h2 => by rw [up_n (by omega), up_n (by omega)])) (by rw [up_n (by omega), up_n (by omega)]; exact a6)
  · exact GX_rf h ri hu hg
theorem de_at (f : Nat → Int32) {n j : Nat} : (∀ k w, k < n → w < 4 → deK (up f 4 (nQ n)) j (4 * n) (5 + 4 * k + w) = if k < j then f (5 + 4 * k + w) else f (5 + 4 * (k + 1) + w)) ∧ ∀ k, k < 4 ∨ 5 + 4 * n ≤ k → deK (up f 4 (nQ n)) j (4 * n) k = f k := by
  refine ⟨fun k w hk hw => ?_, fun k hk => ?_⟩
  · unfold deK
    by_cases c : k < j
    · rw [if_neg (by omega), if_pos c, up_n (by omega)]
    · rw [if_pos (by omega), if_neg c, up_n (by omega)]
      congr 1
      omega
  · unfold deK
    rw [if_neg (by omega), up_n (by omega)]
theorem GX_de (hT2 : T < 100000) (h : GX f (n + 1) T) {j : Nat} (hj : j < n + 1) : GX (deF f (n + 1) j) n T := by
  unfold deF
  rw [Nat.add_sub_cancel]
  obtain ⟨⟨⟨t, a1, a2⟩, a3, a4, a5⟩, a6, a7⟩ := h
  obtain ⟨hm, hf⟩ := de_at f (n := n) (j := j)
  refine GX_rA (by omega) a1 hT2 (GY_cg a2 (hf 0 (by omega)) (fun i h1 h2 => hf i (by omega))) (fun i hi => ?_) (GL_cg a5 (fun i h1 h2 => hf i (by omega))) ?_
  · have e := hm i 0 hi (by decide)
    rw [Nat.add_zero] at e
    rw [e]
    split
    · exact a3 i (by omega)
    · exact a3 (i + 1) (by omega)
  · unfold deK
    rw [if_neg (by omega), up_s]
theorem GX_sl (hT2 : T < 100000) (h : GX f n T) {a r : Nat} (ha : a < 9) (hr : r < 2) (s z : Int32) : GX (slF f n a r s z) n T := by
  unfold slF
  obtain ⟨⟨⟨t, a1, a2⟩, a3, a4, a5⟩, a6, a7⟩ := h
  have ek : (2 * a + r) / 2 = a := by omega
  have er : 2 * a + r - (2 * a + r) / 2 * 2 = r := by omega
  have hf : ∀ i, i < 245 ∨ 281 ≤ i → up (up f (245 + 2 * a + r) s) (263 + 2 * a + r) z i = f i := fun i hi => by rw [up_n (by omega), up_n (by omega)]
  have hq := fun i hi => q_rv (up (up f (245 + 2 * a + r) s) (263 + 2 * a + r) z) n a r (by omega) (i := i) (Or.inl hi)
  have hY : GY (up (up f (245 + 2 * a + r) s) (263 + 2 * a + r) z) t := GY_cg a2 (hf 0 (by omega)) (fun i h1 h2 => hf i (by omega))
  have hYr := GY_rv (n := n) (k := 2 * a + r) (by omega) hY
  rw [er, ek] at hYr
  refine ⟨⟨⟨t, a1, hYr⟩, GK_cg a3 (fun i hi => (hq _ (by omega)).trans (hf _ (by omega))), fun j hj => ?_, GL_cg a5 (fun i h1 h2 => (hq _ (by omega)).trans (hf _ (by omega)))⟩, (hq 4 (by omega)).trans ((hf 4 (by omega)).trans a6), a7⟩
  have := GC_rv (f := up (up f (245 + 2 * a + r) s) (263 + 2 * a + r) z) (k := 2 * a + r) a7 (by omega) j hj (by rw [hY.1]; exact nQ_m1' (by omega)) (fun e => by
    rw [hf (281 + j) (by omega), up_n (by omega), up_n (by omega), us_c2 a7 _ _ (fun i h1 h2 => hf i (by omega))]
    exact a4 j hj)
  rw [er, ek] at this
  exact this
theorem GX_gl (h : GX f n T) {r z : Nat} (hr : r < 2) (h1 : 1 ≤ z) (hz : z ≤ 60) : GX (up f (1 + r) (nQ z)) n T := by
  obtain ⟨⟨⟨t, a1, a2⟩, a3, a4, a5⟩, a6, a7⟩ := h
  refine ⟨⟨⟨t, a1, GY_cg a2 (up_n (by omega)) (fun i h1 h2 => up_n (by omega))⟩, GK_cg a3 (fun i hi => up_n (by omega)), GC_cg a7 a4 (fun i h1 h2 => up_n (by omega)), fun r' hr' => ?_⟩, (up_n (by omega)).trans a6, a7⟩
  by_cases e : r' = r
  · rw [e, up_s]
    exact ⟨z, h1, hz, rfl⟩
  · rw [up_n (by omega)]
    exact a5 r' hr'
theorem GX_ex (h : GX f n T) (x : Int32) : GX (up f 3 x) n T := by
  obtain ⟨⟨⟨t, a1, a2⟩, a3, a4, a5⟩, a6, a7⟩ := h
  exact ⟨⟨⟨t, a1, GY_cg a2 (up_n (by omega)) (fun i h1 h2 => up_n (by omega))⟩, GK_cg a3 (fun i hi => up_n (by omega)), GC_cg a7 a4 (fun i h1 h2 => up_n (by omega)), GL_cg a5 (fun i h1 h2 => up_n (by omega))⟩, (up_n (by omega)).trans a6, a7⟩
theorem GX_st (hT2 : T < 100000) (h : GX f n T) {k : Nat} (hk : k < 18) : GX (up f (281 + k) (f 0)) n T := by
  obtain ⟨⟨⟨t, a1, a2⟩, a3, a4, a5⟩, a6, a7⟩ := h
  refine ⟨⟨⟨t, a1, ⟨(up_n (by omega)).trans a2.1, fun j hj => ?_⟩⟩, GK_cg a3 (fun i hi => up_n (by omega)), fun j hj => ?_, GL_cg a5 (fun i h1 h2 => up_n (by omega))⟩, (up_n (by omega)).trans a6, a7⟩
  · by_cases e : j = k
    · rw [e, up_s]
      exact Or.inr ⟨t, Nat.le_refl t, a2.1⟩
    · rw [up_n (by omega)]
      exact a2.2 j hj
  · rw [up_n (by omega), us_c2 a7 _ _ (fun i h1 h2 => up_n (by omega))]
    by_cases e : j = k
    · rw [e, up_s, a2.1]
      exact fun _ => nQ_m1' (by omega)
    · rw [up_n (by omega)]
      exact a4 j hj
theorem dy_0 (f : Nat → Int32) {t : Nat} (h : f 0 = nQ t) : ∀ m, dyR f m 0 = nQ (t + m)
  | 0 => h
  | m + 1 => by rw [dyR_s, ed_lo _ (by decide), up_s, dy_0 f h m, nQ_add, Nat.add_assoc]
theorem GX_dy (h : GX f n T) (m : Nat) : GX (dyR f m) n (T + m) := by
  obtain ⟨⟨⟨t, a1, a2⟩, a3, a4, a5⟩, a6, a7⟩ := h
  have q : ∀ i, 0 < i → i < 308 → dyR f m i = f i := fun i h1 h2 => dy_lo f h2 h1 m
  refine ⟨⟨⟨t + m, by omega, ⟨dy_0 f a2.1 m, fun k hk => ?_⟩⟩, GK_cg a3 (fun i hi => q _ (by omega) (by omega)), GC_cg a7 a4 (fun i h1 h2 => q i (by omega) (by omega)), GL_cg a5 (fun i h1 h2 => q i (by omega) (by omega))⟩, (q 4 (by omega) (by omega)).trans a6, a7⟩
  rw [q _ (by omega) (by omega)]
  rcases a2.2 k hk with e | ⟨s, h1, h2⟩
  · exact Or.inl e
  · exact Or.inr ⟨s, by omega, h2⟩
end Gd
theorem pgn : ∀ (m n : Nat) (p : Nat → Nat), (∀ i, i < n → p i < m) → (∀ i j, i < n → j < n → p i = p j → i = j) → n ≤ m
  | 0, n, p, h, _ => by
    rcases Nat.eq_zero_or_pos n with e | e
    · omega
    · exact absurd (h 0 e) (Nat.not_lt_zero _)
  | m + 1, 0, _, _, _ => Nat.zero_le _
  | m + 1, n + 1, p, h, hi => by
    have := pgn m n (fun i => if p i = m then p n else p i) (fun i hin => by
      have h1 := h i (by omega)
      have h2 := h n (by omega)
      skip
      split
      · next c =>
        have : ¬ p n = m := fun z => by
          have := hi i n (by omega) (by omega) (c.trans z.symm)
          omega
        omega
      · omega) (fun i j hin hjn e => by
      skip
      by_cases c1 : p i = m <;> by_cases c2 : p j = m
      · exact hi i j (by omega) (by omega) (c1.trans c2.symm)
      · rw [if_pos c1, if_neg c2] at e
        have := hi n j (by omega) (by omega) e
        omega
      · rw [if_neg c1, if_pos c2] at e
        have := hi i n (by omega) (by omega) e
        omega
      · rw [if_neg c1, if_neg c2] at e
        exact hi i j (by omega) (by omega) e)
    omega
theorem n20 {f : Nat → Int32} {n : Nat} (hK : GK f n) (hD : disF f n) : n ≤ 20 := by
  have hx : ∀ i, ∃ p, i < n → p < 20 ∧ f (5 + 4 * i) = nQ (100 * (p / 10) + p % 10) := by
    intro i
    by_cases hi : i < n
    · obtain ⟨v, w, h1, h2, h3⟩ := hK i hi
      refine ⟨10 * v + w, fun _ => ⟨by omega, ?_⟩⟩
      rw [h3, show (10 * v + w) / 10 = v by omega, show (10 * v + w) % 10 = w by omega]
    · exact ⟨0, fun z => absurd z hi⟩
  refine pgn 20 n (fun i => Classical.choose (hx i)) (fun i hi => (Classical.choose_spec (hx i) hi).1) (fun i j hi hj e => hD i j hi hj ?_)
  have e : Classical.choose (hx i) = Classical.choose (hx j) := e
  rw [(Classical.choose_spec (hx i) hi).2, (Classical.choose_spec (hx j) hj).2, e]
