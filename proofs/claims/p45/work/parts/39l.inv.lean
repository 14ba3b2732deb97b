/-! What always holds of a state. -/
def InvA (f : Nat → Int32) (n : Nat) : Prop := (∀ i, i < n → ∃ u g z, u < 6 ∧ g < 3 ∧ z ≤ 5000 ∧ f (5 + 4 * i + 1) = nQ u ∧ f (5 + 4 * i + 2) = nQ g ∧ f (5 + 4 * i + 3) = nQ z) ∧ disF f n ∧ (∃ m, m < 64 ∧ f 3 = nQ m) ∧ ∀ k, k < 18 → ∃ s h, s ≤ 100000 ∧ h ≤ 100000 ∧ f (245 + k) = nQ s ∧ f (263 + k) = nQ h
def InvB (f : Nat → Int32) (n : Nat) : Prop := ∀ k, k < 18 → ¬ f (281 + k) = -1 → ¬ f (245 + k) = nQ 0 ∧ f (245 + k) < usF f (nQ (k / 2)) (k - k / 2 * 2) n
def InvF (f : Nat → Int32) (n : Nat) : Prop := InvA f n ∧ InvB f n
theorem IA_cg {f f' : Nat → Int32} {n : Nat} (h60 : n ≤ 60) (h : InvA f n) (hf : ∀ i, 3 ≤ i → i < 281 → f' i = f i) : InvA f' n := by
  obtain ⟨a1, a2, a3, a4⟩ := h
  refine ⟨fun i hi => ?_, fun i j hi hj e => ?_, ?_, fun k hk => ?_⟩
  · rw [hf (5 + 4 * i + 1) (by omega) (by omega), hf (5 + 4 * i + 2) (by omega) (by omega), hf (5 + 4 * i + 3) (by omega) (by omega)]
    exact a1 i hi
  · rw [hf (5 + 4 * i) (by omega) (by omega), hf (5 + 4 * j) (by omega) (by omega)] at e
    exact a2 i j hi hj e
  · rw [hf 3 (by omega) (by omega)]
    exact a3
  · rw [hf (245 + k) (by omega) (by omega), hf (263 + k) (by omega) (by omega)]
    exact a4 k hk
theorem us_c2 {f f' : Nat → Int32} {n : Nat} (h60 : n ≤ 60) (a : Int32) (r : Nat) (hf : ∀ i, 5 ≤ i → i < 245 → f' i = f i) : usF f' a r n = usF f a r n := by
  refine us_cg a r n (fun i hi => ?_)
  unfold qM
  rw [hf (5 + 4 * i) (by omega) (by omega), hf (5 + 4 * i + 1) (by omega) (by omega), hf (5 + 4 * i + 2) (by omega) (by omega), hf (5 + 4 * i + 3) (by omega) (by omega)]
theorem IB_cg {f f' : Nat → Int32} {n : Nat} (h60 : n ≤ 60) (h : InvB f n) (hf : ∀ i, 5 ≤ i → i < 299 → f' i = f i) : InvB f' n := by
  intro k hk hs
  rw [hf (281 + k) (by omega) (by omega)] at hs
  rw [hf (245 + k) (by omega) (by omega), us_c2 h60 _ _ (fun i h1 h2 => hf i h1 (by omega))]
  exact h k hk hs
theorem IB_rv {f : Nat → Int32} {n k : Nat} (h60 : n ≤ 60) (hk : k < 18) (j : Nat) (hj : j < 18) (h : ¬ j = k → ¬ f (281 + j) = -1 → ¬ f (245 + j) = nQ 0 ∧ f (245 + j) < usF f (nQ (j / 2)) (j - j / 2 * 2) n) : ¬ rvF f n (k / 2) (k - k / 2 * 2) (281 + j) = -1 → ¬ rvF f n (k / 2) (k - k / 2 * 2) (245 + j) = nQ 0 ∧ rvF f n (k / 2) (k - k / 2 * 2) (245 + j) < usF (rvF f n (k / 2) (k - k / 2 * 2)) (nQ (j / 2)) (j - j / 2 * 2) n := by
  have q : ∀ i, i < 281 → rvF f n (k / 2) (k - k / 2 * 2) i = f i := fun i hi => q_rv f n _ _ (by omega) (Or.inl hi)
  rw [q (245 + j) (by omega), us_c2 h60 _ _ (fun i h1 h2 => q i (by omega))]
  rw [← rv_k f (fun k => usF f (nQ (k / 2)) (k - k / 2 * 2) n) rfl]
  unfold rvU
  dsimp only
  by_cases e : j = k
  · subst e
    split
    · next c => exact fun _ => c.1
    · next c => 
      split
      · rw [lg_lo _ _ _ _ (by omega), up_s]
        exact fun z => absurd rfl z
      · next c2 => exact fun z => Classical.byContradiction fun y => c2 ⟨y, z⟩
  · have h := h e
    split
    · rw [lg_lo _ _ _ _ (by omega), up_n (by omega)]
      exact h
    · split
      · rw [lg_lo _ _ _ _ (by omega), up_n (by omega)]
        exact h
      · exact h
theorem IB_rA (f : Nat → Int32) {n : Nat} (h60 : n ≤ 60) : InvB (rvA f n 18) n := by
  have L : ∀ k, k ≤ 18 → ∀ j, j < k → ¬ rvA f n k (281 + j) = -1 → ¬ rvA f n k (245 + j) = nQ 0 ∧ rvA f n k (245 + j) < usF (rvA f n k) (nQ (j / 2)) (j - j / 2 * 2) n := by
    intro k
    induction k with
    | zero => intro _ j hj; omega
    | succ k ih =>
      intro hk j hj
      rw [rvA_s]
      exact IB_rv h60 (by omega) j (by omega) (fun e => ih (by omega) j (by omega))
  exact fun k hk => L 18 (Nat.le_refl _) k hk
theorem IF_rA {f : Nat → Int32} {n : Nat} (h60 : n ≤ 60) (h : InvA f n) : InvF (rvA f n 18) n := ⟨IA_cg h60 h (fun i h1 h2 => q_rA f n (Or.inl h2) 18 (Nat.le_refl _)), IB_rA f h60⟩
theorem IF_rf {f : Nat → Int32} {n : Nat} (h60 : n ≤ 60) (h : InvF f n) (ri : Nat → Int32) {u g : Nat} (hu : u < 6) (hg : g < 3) : InvF (rfF f n ri u g) n := ⟨IA_cg h60 h.1 (fun i h1 h2 => rf_lo f n ri hu hg (by omega)), IB_cg h60 h.2 (fun i h1 h2 => rf_lo f n ri hu hg (by omega))⟩
theorem IF_cr {f : Nat → Int32} {n : Nat} (h60 : n < 60) (h : InvF f n) (ri : Nat → Int32) {u g z : Nat} (hu : u < 6) (hg : g < 3) (hz : z ≤ 5000) {p : Int32} (hp : ∀ i, i < n → ¬ f (5 + 4 * i) = p) : InvF (crF f n ri u g p (nQ z)) (crN f n ri u g) := by
  unfold crF crN
  split
  · refine IF_rA (by omega) ?_
    obtain ⟨a1, a2, a3, a4⟩ := h.1
    refine ⟨fun i hi => ?_, fun i j hi hj e => ?_, ?_, fun k hk => ?_⟩
    · by_cases c : i = n
      · subst c
        refine ⟨u, g, z, hu, hg, hz, ?_, ?_, ?_⟩ <;> simp (disch := omega) only [up_n, up_s]
      · obtain ⟨u', g', z', b⟩ := a1 i (by omega)
        refine ⟨u', g', z', ?_⟩
        simp (disch := omega) only [up_n]
        exact b
    · by_cases c : i = n <;> by_cases c' : j = n
      · omega
      · subst c
        simp (disch := omega) only [up_n, up_s] at e
        exact absurd e.symm (hp j (by omega))
      · subst c'
        simp (disch := omega) only [up_n, up_s] at e
        exact absurd e (hp i (by omega))
      · simp (disch := omega) only [up_n] at e
        exact a2 i j (by omega) (by omega) e
    · simp (disch := omega) only [up_n]
      exact a3
    · simp (disch := omega) only [up_n]
      exact a4 k hk
  · exact IF_rf (by omega) h ri hu hg
theorem IF_rs {f : Nat → Int32} {n : Nat} (h60 : n ≤ 60) (h : InvF f n) (ri : Nat → Int32) {u g j z : Nat} (hu : u < 6) (hg : g < 3) (hz : z ≤ 5000) (hj : j < n) : InvF (rsF f n ri u g j (nQ z)) n := by
  unfold rsF
  split
  · refine IF_rA h60 ?_
    obtain ⟨a1, a2, a3, a4⟩ := h.1
    refine ⟨fun i hi => ?_, fun i j' hi hj' e => ?_, ?_, fun k hk => ?_⟩
    · obtain ⟨u', g', z', b1, b2, b3, b4, b5, b6⟩ := a1 i hi
      by_cases c : i = j
      · subst c
        refine ⟨u', g', z, b1, b2, hz, ?_, ?_, ?_⟩ <;> simp (disch := omega) only [up_n, up_s]
        · exact b4
        · exact b5
      · refine ⟨u', g', z', ?_⟩
        simp (disch := omega) only [up_n]
        exact ⟨b1, b2, b3, b4, b5, b6⟩
    · simp (disch := omega) only [up_n] at e
      exact a2 i j' hi hj' e
    · simp (disch := omega) only [up_n]
      exact a3
    · simp (disch := omega) only [up_n]
      exact a4 k hk
  · exact IF_rf h60 h ri hu hg
theorem IF_mv {f : Nat → Int32} {n : Nat} (h60 : n ≤ 60) (h : InvF f n) (ri : Nat → Int32) {u g j : Nat} (hu : u < 6) (hg : g < 3) (hj : j < n) : InvF (mvF f n ri u g j) n := by
  unfold mvF
  split
  · refine IF_rA h60 ?_
    obtain ⟨a1, a2, a3, a4⟩ := h.1
    refine ⟨fun i hi => ?_, fun i j' hi hj' e => ?_, ?_, fun k hk => ?_⟩
    · obtain ⟨u', g', z', b1, b2, b3, b4, b5, b6⟩ := a1 i hi
      by_cases c : i = j
      · subst c
        refine ⟨u, g, z', hu, hg, b3, ?_, ?_, ?_⟩ <;> simp (disch := omega) only [up_n, up_s]
        exact b6
      · refine ⟨u', g', z', ?_⟩
        simp (disch := omega) only [up_n]
        exact ⟨b1, b2, b3, b4, b5, b6⟩
    · simp (disch := omega) only [up_n] at e
      exact a2 i j' hi hj' e
    · simp (disch := omega) only [up_n]
      exact a3
    · simp (disch := omega) only [up_n]
      exact a4 k hk
  · exact IF_rf h60 h ri hu hg
theorem IF_de {f : Nat → Int32} {n : Nat} (h60 : n < 60) (h : InvF f (n + 1)) {j : Nat} (hj : j < n + 1) : InvF (deF f (n + 1) j) n := by
  unfold deF
  rw [Nat.add_sub_cancel]
  refine IF_rA (by omega) ?_
  obtain ⟨a1, a2, a3, a4⟩ := h.1
  have hm : ∀ k w, k < n → w < 4 → deK (up f 4 (nQ n)) j (4 * n) (5 + 4 * k + w) = if k < j then f (5 + 4 * k + w) else f (5 + 4 * (k + 1) + w) := by
    intro k w hk hw
    unfold deK
    by_cases c : k < j
    · rw [if_neg (by omega), if_pos c, up_n (by omega)]
    · rw [if_pos (by omega), if_neg c, up_n (by omega)]
      congr 1
      omega
  have hf0 : ∀ k, k < 4 ∨ 245 ≤ k → deK (up f 4 (nQ n)) j (4 * n) k = f k := fun k hk => by
    unfold deK
    rw [if_neg (by omega), up_n (by omega)]
  refine ⟨fun i hi => ?_, fun i j' hi hj' e => ?_, ?_, fun k hk => ?_⟩
  · rw [hm i 1 hi (by decide), hm i 2 hi (by decide), hm i 3 hi (by decide)]
    by_cases c : i < j
    · simp only [c, if_true]
      exact a1 i (by omega)
    · simp only [c, if_false]
      exact a1 (i + 1) (by omega)
  · have e1 := hm i 0 hi (by decide)
    have e2 := hm j' 0 hj' (by decide)
    rw [Nat.add_zero] at e1 e2
    rw [e1, e2] at e
    simp only [Nat.add_zero] at e
    by_cases c : i < j <;> by_cases c' : j' < j <;> simp only [c, c', if_true, if_false] at e <;> have := a2 _ _ (by omega) (by omega) e <;> omega
  · rw [hf0 3 (by omega)]
    exact a3
  · rw [hf0 (245 + k) (by omega), hf0 (263 + k) (by omega)]
    exact a4 k hk
