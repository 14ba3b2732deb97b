/-! The two sides as they are made. -/
theorem s0_lo {i : Nat} (h : i < 281) (h1 : ¬ i = 1) (h2 : ¬ i = 2) : s0F i = nQ 0 := by
  unfold s0F
  rw [if_neg (by omega), if_neg (by omega)]
theorem s0_hi {i : Nat} (h : 299 ≤ i) : s0F i = nQ 0 := by
  unfold s0F
  rw [if_neg (by omega), if_neg (by omega)]
theorem s0_m {i : Nat} (h : 281 ≤ i) (h2 : i < 299) : s0F i = -1 := by
  unfold s0F
  rw [if_neg (by omega), if_pos ⟨h, h2⟩]
theorem Rl_0 {d : Nat → Nat → Int32} (h : NwS d) : RlS d s0F := by
  obtain ⟨h0, h1, h2, h3, h6, h7, h8, h13, h13'⟩ := h
  have e3 : s0F 3 = nQ 0 := s0_lo (by decide) (by decide) (by decide)
  refine ⟨0, ⟨⟨?_, fun r hr => ?_, fun u hu => ?_⟩, fun k hk => ⟨?_, ?_, ?_, ?_⟩, fun a ha => ?_, ?_⟩, ⟨h8, s0_lo (by decide) (by decide) (by decide), by decide, List.Perm.refl _⟩, ⟨⟨fun i hi => absurd hi (Nat.not_lt_zero i), (by intro i j hi; exact absurd hi (Nat.not_lt_zero _)), ⟨0, by decide, e3⟩, fun k hk => ⟨0, 0, by decide, by decide, s0_lo (by omega) (by omega) (by omega), s0_lo (by omega) (by omega) (by omega)⟩⟩, fun k hk hc => absurd (s0_m (by omega) (by omega)) hc⟩⟩
  · exact h0.trans (s0_lo (by decide) (by decide) (by decide)).symm
  · rw [h1 r hr]
    rcases (show r = 0 ∨ r = 1 by omega) with rfl | rfl <;> rfl
  · rw [h2 u]
    have e : frF s0F u = False := by
      unfold frF
      rw [e3]
      rcases (show u = 0 ∨ u = 1 ∨ u = 2 ∨ u = 3 ∨ u = 4 ∨ u = 5 by omega) with rfl | rfl | rfl | rfl | rfl | rfl <;> decide
    simp only [e, if_false]
  · rw [(h3 k).1]
    rfl
  · rw [(h3 k).2.1, s0_lo (by omega) (by omega) (by omega)]
  · rw [(h3 k).2.2, s0_lo (by omega) (by omega) (by omega)]
  · rw [h6 k hk, s0_m (by omega) (by omega)]
  · rw [h7 a, s0_hi (by omega)]
  · exact ⟨0, 0, by decide, by decide, h13, h13', s0_hi (by decide), fun i hi => absurd hi (Nat.not_lt_zero i)⟩
theorem m0_tk (L : Nat) (xs : Nat → Int32) (v : Nat) : tkM (m0M L xs) v = if 1 ≤ v ∧ v < 8 then (2, L) else (0, 0) := rfl
theorem m0_rd (L : Nat) (xs : Nat → Int32) (v j : Nat) : rdM (m0M L xs) v j = if 1 ≤ v ∧ v < 8 then xs j else 0 := rfl
theorem Bn_0 (L : Nat) (xs : Nat → Int32) : Bn L xs (nwM (m0M L xs) 1 4) 9 := by
  have hg : Grw (m0M L xs) (nwM (m0M L xs) 1 4) 8 := Gr_nw rfl 1 4
  refine ⟨rfl, by decide, ⟨⟨?_, fun i => ?_⟩, fun w h1 h2 => ⟨?_, fun i => ?_⟩⟩, tk_nw (m0M L xs) 1 4, rd_nw (m0M L xs) 1 4 3, ⟨fun b hb _ h2 => ?_, ⟨fun _ h2 => ?_, fun _ h2 => ?_, fun _ h2 => ?_, fun _ h2 => ?_⟩, fun _ h2 => ?_⟩, fun v' j' t x' hP ht => ?_⟩
  · rw [(hg 1 (by decide)).1, m0_tk, if_pos (by decide)]
  · rw [(hg 1 (by decide)).2.2, m0_rd, if_pos (by decide)]
  · rw [(hg w h2).1, m0_tk, if_pos ⟨by omega, h2⟩]
  · rw [(hg w h2).2.2, m0_rd, if_pos ⟨by omega, h2⟩]
  · exfalso
    rcases hb with rfl | rfl | ⟨i, hi, rfl⟩ | ⟨i, hi, rfl⟩ <;> omega
  · omega
  · omega
  · omega
  · omega
  · omega
  · have := PT_lt hP
    have := PT_v hP
    omega
theorem RV_0 (L : Nat) (xs : Nat → Int32) : ∃ τ, DoM 44 [.ref 8] (nwM (m0M L xs) 1 4) = some (.inl none, τ) ∧ StX L xs τ ∧ nxM τ = 186 ∧ ∀ H, RV τ s0F H 0 := by
  obtain ⟨σ1, x1, h⟩ := c44 (Bn_0 L xs)
  obtain ⟨a1, a2, a3, a4, a5, ⟨a6, ⟨b1, b2, b3, b4⟩, a7⟩, a8⟩ := id h
  refine ⟨σ1, x1, a3, a1, fun H => ?_⟩
  have ss : ∀ b, stB b → b + 17 ≤ 186 → ShS σ1 b := fun b hb hl => (a6 b hb (by omega) hl).1
  obtain ⟨z1, z2, z3, z4, z5, z6⟩ := a7 (by decide) (by decide)
  have nw : NwS (rw_ σ1 9) := (a6 9 (Or.inl rfl) (by decide) (by decide)).2 rfl
  have q43 : ∀ i, i < 6 → prM σ1 43 i = 44 + 17 * i := fun i hi => a8 43 i (61 + 17 * i) (44 + 17 * i) (by unfold PT; omega) (by omega)
  have q146 : ∀ i, i < 2 → prM σ1 146 i = 147 + 17 * i := fun i hi => a8 146 i (164 + 17 * i) (147 + 17 * i) (by unfold PT; omega) (by omega)
  have s6 : ∀ i, i < 6 → ShS σ1 (44 + 17 * i) := fun i hi => ss _ (Or.inr (Or.inr (Or.inl ⟨i, hi, rfl⟩))) (by omega)
  have s2 : ∀ i, i < 2 → ShS σ1 (147 + 17 * i) := fun i hi => ss _ (Or.inr (Or.inr (Or.inr ⟨i, hi, rfl⟩))) (by omega)
  have ge : 186 ≤ nxM σ1 := by rw [a1]; exact Nat.le_refl _
  refine ⟨⟨⟨⟨a4, ?_, ?_, ?_, ?_, ?_, ?_, ?_⟩, ⟨ss 9 (Or.inl rfl) (by decide), ss 26 (Or.inr (Or.inl rfl)) (by decide), s6, fun i hi => ⟨q146 i hi, s2 i hi⟩⟩, ⟨b1 (by decide) (by decide), b2 (by decide) (by decide), (b3 (by decide) (by decide)).1, z1, z2, z3, z4, z5, b4 (by decide) (by decide)⟩⟩, ge⟩, Nat.zero_le _, Rl_0 nw, a5, fun i => i, ⟨fun i hi => ⟨q43 i hi, hi⟩, fun i j _ _ e => e⟩, fun i hi => absurd hi (Nat.not_lt_zero i)⟩
  · exact a8 8 0 26 9 (Or.inl ⟨rfl, Or.inl ⟨rfl, rfl, rfl⟩⟩) (by decide)
  · exact a8 8 1 43 26 (by unfold PT; omega) (by decide)
  · exact a8 8 2 44 43 (by unfold PT; omega) (by decide)
  · exact a8 8 4 147 146 (by unfold PT; omega) (by decide)
  · exact a8 8 5 182 181 (by unfold PT; omega) (by decide)
  · exact a8 8 6 185 182 (by unfold PT; omega) (by decide)
  · exact a8 8 7 186 185 (by unfold PT; omega) (by decide)
