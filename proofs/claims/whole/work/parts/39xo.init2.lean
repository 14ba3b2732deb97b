/-! The two sides as they are made. -/
theorem s0_lo {i : Nat} (h : i < 281) (h1 : ¬ i = 1) (h2 : ¬ i = 2) : s0F i = nQ 0 := by
  unfold s0F
  rw [if_neg (by omega), if_neg (by omega)]
theorem s0_hi {i : Nat} (h : 299 ≤ i) : s0F i = nQ 0 := by
  unfold s0F
  rw [if_neg (by omega), if_neg (by omega)]
theorem s0_m {i : Nat} (h : 281 ≤ i) (h2 : i < 299) : s0F i = -1 := by
  unfold s0F
  rw [if_neg (by omega), if_pos ⟨h, h2⟩]
theorem Rl_0 {d : Nat → Nat → Int32} (h : NwS d) : RlS d s0F := by
  obtain ⟨h0, h1, h2, h3, h6, h7, h8, h13, h13'⟩ := h
  have e3 : s0F 3 = nQ 0 := s0_lo (by decide) (by decide) (by decide)
  refine ⟨0, ⟨⟨?_, fun r hr => ?_, fun u hu => ?_⟩, fun k hk => ⟨?_, ?_, ?_, ?_⟩, fun a ha => ?_, ?_⟩, ⟨h8, s0_lo (by decide) (by decide) (by decide), by decide, List.Perm.refl _⟩, ⟨⟨fun i hi => absurd hi (Nat.not_lt_zero i), (by intro i j hi; exact absurd hi (Nat.not_lt_zero _)), ⟨0, by decide, e3⟩, fun k hk => ⟨0, 0, by decide, by decide, s0_lo (by omega) (by omega) (by omega), s0_lo (by omega) (by omega) (by omega)⟩⟩, fun k hk hc => absurd (s0_m (by omega) (by omega)) hc⟩⟩
  · exact h0.trans (s0_lo (by decide) (by decide) (by decide)).symm
  · rw [h1 r hr]
    rcases (show r = 0 ∨ r = 1 by omega) with rfl | rfl <;> rfl
  · rw [h2 u]
    have e : frF s0F u = False := by
      unfold frF
      rw [e3]
      rcases (show u = 0 ∨ u = 1 ∨ u = 2 ∨ u = 3 ∨ u = 4 ∨ u = 5 by omega) with rfl | rfl | rfl | rfl | rfl | rfl <;> decide
    simp only [e, if_false]
  · rw [(h3 k).1]
    rfl
  · rw [(h3 k).2.1, s0_lo (by omega) (by omega) (by omega)]
  · rw [(h3 k).2.2, s0_lo (by omega) (by omega) (by omega)]
  · rw [h6 k hk, s0_m (by omega) (by omega)]
  · rw [h7 a, s0_hi (by omega)]
  · exact ⟨0, 0, by decide, by decide, h13, h13', s0_hi (by decide), fun i hi => absurd hi (Nat.not_lt_zero i)⟩
theorem m0_tk (L : Nat) (xs : Nat → Int32) (v : Nat) : tkM (m0M L xs) v = if v = 1 then (2, L) else if 2 ≤ v ∧ v < 8 then (2, (svM v).length) else (0, 0) := rfl
theorem m0_rd (L : Nat) (xs : Nat → Int32) (v j : Nat) : rdM (m0M L xs) v j = if v = 1 then xs j else if 2 ≤ v ∧ v < 8 then (svM v).getD j 0 else 0 := rfl
theorem Bn_0 (L : Nat) (xs : Nat → Int32) : Bn L xs (nwM (m0M L xs) 1 4) 9 := by
  have hg : Grw (m0M L xs) (nwM (m0M L xs) 1 4) 8 := Gr_nw rfl 1 4
  refine ⟨rfl, by decide, ⟨⟨?_, fun i => ?_⟩, fun w h1 h2 => ⟨?_, fun i => ?_⟩⟩, tk_nw (m0M L xs) 1 4, rd_nw (m0M L xs) 1 4 3, ⟨fun b hb _ h2 => ?_, ⟨fun _ h2 => ?_, fun _ h2 => ?_, fun _ h2 => ?_, fun _ h2 => ?_⟩, fun _ h2 => ?_⟩, fun v' j' t x' hP ht => ?_⟩
  · rw [(hg 1 (by decide)).1, m0_tk, if_pos rfl]
  · rw [(hg 1 (by decide)).2.2, m0_rd, if_pos rfl]
  · rw [(hg w h2).1, m0_tk, if_neg (by omega), if_pos ⟨h1, h2⟩]
  · rw [(hg w h2).2.2, m0_rd, if_neg (by omega), if_pos ⟨h1, h2⟩]
  · exfalso
    rcases hb with rfl | rfl | ⟨i, hi, rfl⟩ | ⟨i, hi, rfl⟩ <;> omega
  · omega
  · omega
  · omega
  · omega
  · omega
  · have := PT_lt hP
    have := PT_v hP
    omega
theorem law_0 (L : Nat) (xs : Nat → Int32) : ∃ τ, DoM 223 [.ref 1] (m0M L xs) = RuM 223 (23, [some (.ref 1), some (.ref 8), some (.ref 186), some (.ref 193), some (.int (nQ 0)), none, none], [], 186, 7434) τ ∧ RW L xs τ := by
  obtain ⟨σ1, x1, h⟩ := c44 (Bn_0 L xs)
  obtain ⟨a1, a2, a3, a4, a5, ⟨a6, ⟨b1, b2, b3, b4⟩, a7⟩, a8⟩ := id h
  have e5 := tk_nw σ1 1 5
  have e5' := rd_nw σ1 1 5
  rw [a1] at e5 e5'
  have g1 := Gr_nw a1 1 5
  obtain ⟨σ2, y1, y2, y3, y4, y5, y6, y7⟩ := c104n (σ := nwM σ1 1 5) (b := 186) (by decide) (by rw [nx_nw, a1]) e5 e5'
  have g2 := Gr_tr g1 y7
  have g3 := Gr_nw y6 5 1
  have e6 := tk_nw σ2 5 1
  rw [y6] at e6
  have g : Grw σ1 (nwM σ2 5 1) 186 := fun v hv => ⟨(g3 v (by omega)).1.trans (g2 v hv).1, (g3 v (by omega)).2.1.trans (g2 v hv).2.1, (g3 v (by omega)).2.2.trans (g2 v hv).2.2⟩
  have e4 := tk_nw (m0M L xs) 1 4
  have n0 : nxM (m0M L xs) = 8 := rfl
  rw [n0] at e4
  refine ⟨nwM σ2 5 1, ?_, ?_⟩
  · refine (g223_0).trans ?_
    simp only [n0, e4, e5, x1, y1, a1, y6, cn_l, Option.toList, List.nil_append, List.cons_append, if_true, g223_3, g223_7, g223_11, g223_15, g223_19]
  · have ss : ∀ b, stB b → b + 17 ≤ 186 → ShS (nwM σ2 5 1) b := fun b hb hl => SS_gr (a6 b hb (by omega) hl).1 (fun w h1 h2 => ⟨(g w (by omega)).1, (g w (by omega)).2.1⟩)
    have pp : ∀ v j t x, PT v j t x → t ≤ 186 → prM (nwM σ2 5 1) v j = x := fun v j t x hP ht => by
      have := PT_lt hP
      exact (congrFun (g v (by omega)).2.1 j).trans (a8 v j t x hP ht)
    obtain ⟨z1, z2, z3, z4, z5, z6⟩ := a7 (by decide) (by decide)
    refine ⟨⟨⟨⟨(g 8 (by decide)).1.trans a4, ?_, ?_, ?_, ?_, ?_, ?_, ?_⟩, ⟨ss 9 (Or.inl rfl) (by decide), ss 26 (Or.inr (Or.inl rfl)) (by decide), fun i hi => ss _ (Or.inr (Or.inr (Or.inl ⟨i, hi, rfl⟩))) (by omega), fun i hi => ⟨?_, ss _ (Or.inr (Or.inr (Or.inr ⟨i, hi, rfl⟩))) (by omega)⟩⟩, ⟨?_, ?_, ?_, ?_, ?_, ?_, ?_, ?_, ?_, e6⟩, ?_⟩, ⟨⟨?_, fun i => ?_⟩, fun w h1 h2 => ⟨?_, fun i => ?_⟩⟩⟩, ⟨fun i => i, 0, ⟨⟨fun i hi => ⟨?_, hi⟩, fun i j _ _ e => e⟩, ?_, by decide, ?_⟩, ?_, fun i hi => absurd hi (Nat.not_lt_zero i)⟩, fun i hi => ⟨?_, Or.inl ?_⟩, ⟨fun _ => 32, 0, ⟨?_, by decide, fun i hi => absurd hi (Nat.not_lt_zero i)⟩, ?_, fun i hi => absurd hi (Nat.not_lt_zero i)⟩⟩
    · exact pp 8 0 26 9 (Or.inl ⟨rfl, Or.inl ⟨rfl, rfl, rfl⟩⟩) (by decide)
    · exact pp 8 1 43 26 (by unfold PT; omega) (by decide)
    · exact pp 8 2 44 43 (by unfold PT; omega) (by decide)
    · exact pp 8 4 147 146 (by unfold PT; omega) (by decide)
    · exact pp 8 5 182 181 (by unfold PT; omega) (by decide)
    · exact pp 8 6 185 182 (by unfold PT; omega) (by decide)
    · exact pp 8 7 186 185 (by unfold PT; omega) (by decide)
    · exact pp 146 i (164 + 17 * i) (147 + 17 * i) (by unfold PT; omega) (by omega)
    · exact (g 43 (by decide)).1.trans (b1 (by decide) (by decide))
    · exact (g 146 (by decide)).1.trans (b2 (by decide) (by decide))
    · exact (g 181 (by decide)).1.trans (b3 (by decide) (by decide)).1
    · exact (g 182 (by decide)).1.trans z1
    · exact (congrFun (g 182 (by decide)).2.1 0).trans z2
    · exact (congrFun (g 182 (by decide)).2.1 4).trans z3
    · exact (g 183 (by decide)).1.trans z4
    · exact (g 184 (by decide)).1.trans z5
    · exact (g 185 (by decide)).1.trans (b4 (by decide) (by decide))
    · unfold ShM at y2 ⊢
      rw [(g3 186 (by decide)).1, (g3 (186 + 1) (by decide)).1, (g3 (186 + 2) (by decide)).1, (g3 (186 + 3) (by decide)).1, (g3 (186 + 4) (by decide)).1, (g3 (186 + 5) (by decide)).1, (g3 (186 + 6) (by decide)).1, (g3 186 (by decide)).2.1]
      exact y2
    · exact (g 1 (by decide)).1.trans a3.1.1
    · exact (congrFun (g 1 (by decide)).2.2 i).trans (a3.1.2 i)
    · exact (g w (by omega)).1.trans (a3.2 w h1 h2).1
    · exact (congrFun (g w (by omega)).2.2 i).trans ((a3.2 w h1 h2).2 i)
    · exact pp 43 i (61 + 17 * i) (44 + 17 * i) (by unfold PT; omega) (by omega)
    · exact (congrFun (g 8 (by decide)).2.2 3).trans a5
    · exact (congrFun (g3 186 (by decide)).2.2 2).trans (y5 2)
    · rw [(g3 187 (by decide)).2.2, bk_0, show rdM σ2 187 = s0F from y3]
      exact Rl_0 (Nw_gr ((a6 9 (Or.inl rfl) (by decide) (by decide)).2 rfl) (fun w h1 h2 => (g w (by omega)).2.2))
    · rw [(g 181 (by decide)).2.2, (g3 188 (by decide)).2.2, (b3 (by decide) (by decide)).2 i]
      exact (y4 i).symm
    · rw [(g3 188 (by decide)).2.2]
      exact y4 i
    · exact (congrFun (g3 186 (by decide)).2.2 5).trans (y5 5)
    · exact (congrFun (g 182 (by decide)).2.2 1).trans z6
