/-! The class as it is made. -/
theorem SS_gr {σ σ' : Mem} {b : Nat} (h : ShS σ b) (hg : ∀ v, b ≤ v → v < b + 17 → tkM σ' v = tkM σ v ∧ prM σ' v = prM σ v) : ShS σ' b := by
  unfold ShS
  rw [(hg b (by omega) (by omega)).1, (hg (b + 1) (by omega) (by omega)).1, (hg (b + 2) (by omega) (by omega)).1, (hg (b + 3) (by omega) (by omega)).1, (hg (b + 4) (by omega) (by omega)).1, (hg (b + 5) (by omega) (by omega)).1, (hg (b + 6) (by omega) (by omega)).1, (hg (b + 7) (by omega) (by omega)).1, (hg (b + 8) (by omega) (by omega)).1, (hg (b + 9) (by omega) (by omega)).1, (hg (b + 10) (by omega) (by omega)).1, (hg (b + 11) (by omega) (by omega)).1, (hg (b + 12) (by omega) (by omega)).1, (hg (b + 13) (by omega) (by omega)).1, (hg (b + 14) (by omega) (by omega)).1, (hg (b + 15) (by omega) (by omega)).1, (hg (b + 16) (by omega) (by omega)).1, (hg b (by omega) (by omega)).2, (hg (b + 8) (by omega) (by omega)).2, (hg (b + 13) (by omega) (by omega)).2]
  exact h
theorem Nw_gr {σ σ' : Mem} {b : Nat} (h : NwS (rw_ σ b)) (hg : ∀ v, b ≤ v → v < b + 17 → rdM σ' v = rdM σ v) : NwS (rw_ σ' b) := by
  have hr : ∀ u, u < 17 → rw_ σ' b u = rw_ σ b u := fun u hu => hg (b + u) (by omega) (by omega)
  unfold NwS
  rw [hr 0 (by decide), hr 1 (by decide), hr 2 (by decide), hr 3 (by decide), hr 4 (by decide), hr 5 (by decide), hr 6 (by decide), hr 7 (by decide), hr 8 (by decide), hr 13 (by decide)]
  exact h
def StX (L : Nat) (xs : Nat → Int32) (τ : Mem) : Prop := (tkM τ 1 = (2, L) ∧ ∀ j, rdM τ 1 j = xs j) ∧ ∀ v, 2 ≤ v → v < 8 → tkM τ v = (2, L) ∧ ∀ j, rdM τ v j = xs j
def stB (b : Nat) : Prop := b = 9 ∨ b = 26 ∨ (∃ i, i < 6 ∧ b = 44 + 17 * i) ∨ ∃ i, i < 2 ∧ b = 147 + 17 * i
def PT (v j t x : Nat) : Prop := (v = 8 ∧ ((j = 0 ∧ t = 26 ∧ x = 9) ∨ (j = 1 ∧ t = 43 ∧ x = 26) ∨ (j = 2 ∧ t = 44 ∧ x = 43) ∨ (j = 4 ∧ t = 147 ∧ x = 146) ∨ (j = 5 ∧ t = 182 ∧ x = 181) ∨ (j = 6 ∧ t = 185 ∧ x = 182) ∨ (j = 7 ∧ t = 186 ∧ x = 185))) ∨ (v = 43 ∧ j < 6 ∧ t = 61 + 17 * j ∧ x = 44 + 17 * j) ∨ (v = 146 ∧ j < 2 ∧ t = 164 + 17 * j ∧ x = 147 + 17 * j)
def RdX (σ : Mem) : Prop := tkM σ 182 = (1, 3) ∧ prM σ 182 0 = 183 ∧ prM σ 182 4 = 184 ∧ tkM σ 183 = (4, 100) ∧ tkM σ 184 = (2, 5) ∧ rdM σ 182 1 = nQ 0
def Bk (σ : Mem) (n n' : Nat) : Prop := (∀ b, stB b → n < b + 17 → b + 17 ≤ n' → ShS σ b ∧ (b = 9 → NwS (rw_ σ b))) ∧ ((n ≤ 43 → 43 < n' → tkM σ 43 = (6, 6)) ∧ (n ≤ 146 → 146 < n' → tkM σ 146 = (6, 2)) ∧ (n ≤ 181 → 181 < n' → tkM σ 181 = (3, 2) ∧ ∀ i, rdM σ 181 i = nQ 0) ∧ (n ≤ 185 → 185 < n' → tkM σ 185 = (2, 60))) ∧ (n < 185 → 185 ≤ n' → RdX σ)
def Bn (L : Nat) (xs : Nat → Int32) (σ : Mem) (n : Nat) : Prop := nxM σ = n ∧ 9 ≤ n ∧ StX L xs σ ∧ tkM σ 8 = (1, 4) ∧ rdM σ 8 3 = nQ 0 ∧ Bk σ 0 n ∧ ∀ v j t x, PT v j t x → t ≤ n → prM σ v j = x
theorem Gr_tr {σ σ' σ'' : Mem} {n : Nat} (h : Grw σ σ' n) (h' : Grw σ' σ'' n) : Grw σ σ'' n := fun v hv => ⟨(h' v hv).1.trans (h v hv).1, (h' v hv).2.1.trans (h v hv).2.1, (h' v hv).2.2.trans (h v hv).2.2⟩
theorem Gr_nw {σ : Mem} {n : Nat} (h : nxM σ = n) (k l : Nat) : Grw σ (nwM σ k l) n := fun v hv => by
  have e : ¬ v = σ.2.1 := fun z => by
    have : σ.2.1 = n := h
    omega
  refine ⟨if_neg e, ?_, ?_⟩
  · funext i
    exact if_neg e
  · funext i
    exact if_neg e
theorem tk_nw (σ : Mem) (k l : Nat) : tkM (nwM σ k l) (nxM σ) = (k, l) := if_pos rfl
theorem rd_nw (σ : Mem) (k l i : Nat) : rdM (nwM σ k l) (nxM σ) i = 0 := if_pos rfl
theorem PT_v {v j t x : Nat} (h : PT v j t x) : v = 8 ∨ v = 43 ∨ v = 146 := by
  unfold PT at h
  omega
theorem PT_lt {v j t x : Nat} (h : PT v j t x) : v + 17 ≤ t := by
  unfold PT at h
  omega
theorem PT_u {v j t x t' x' : Nat} (h : PT v j t x) (h' : PT v j t' x') : t = t' := by
  unfold PT at h h'
  omega
theorem pr_wp {σ : Mem} {v j x w : Nat} (h : ¬ w = v) : prM (wpM σ v j x) w = prM σ w := by
  funext i
  show (if w = v ∧ i = j then x else σ.2.2.2 w i) = σ.2.2.2 w i
  rw [if_neg (fun z => h z.1)]
theorem pr_wps (σ : Mem) (v j x : Nat) : prM (wpM σ v j x) v j = x := by
  show (if v = v ∧ j = j then x else σ.2.2.2 v j) = x
  rw [if_pos ⟨rfl, rfl⟩]
theorem pr_wpn {σ : Mem} {v j x w i : Nat} (h : ¬ (w = v ∧ i = j)) : prM (wpM σ v j x) w i = prM σ w i := by
  show (if w = v ∧ i = j then x else σ.2.2.2 w i) = σ.2.2.2 w i
  rw [if_neg h]
section Ma
variable {L : Nat} {xs : Nat → Int32} {σ σ1 : Mem} {n n' v j x : Nat}
theorem Bn_st (h : Bn L xs σ n) (hg : Grw σ σ1 n) (hn' : nxM σ1 = n') (hlt : n < n') (hp : PT v j n' x) (hu : ∀ v' j' t x', PT v' j' t x' → n < t → t ≤ n' → v' = v ∧ j' = j ∧ x' = x) (hx : Bk σ1 n n') : Bn L xs (wpM σ1 v j x) n' := by
  obtain ⟨a1, a2, a3, a4, a5, ⟨a6, ⟨b1, b2, b3, b4⟩, a7⟩, a8⟩ := h
  obtain ⟨x6, ⟨y1, y2, y3, y4⟩, x7⟩ := hx
  have hv : v = 8 ∨ v = 43 ∨ v = 146 := PT_v hp
  have hpn : ∀ w, ¬ w = v → prM (wpM σ1 v j x) w = prM σ1 w := fun w hw => pr_wp hw
  have hsb : ∀ b, stB b → ∀ w, b ≤ w → w < b + 17 → ¬ w = v := fun b hb w h1 h2 => by
    rcases hb with rfl | rfl | ⟨i, hi, rfl⟩ | ⟨i, hi, rfl⟩ <;> omega
  refine ⟨hn', by omega, ⟨⟨?_, fun i => ?_⟩, fun w h1 h2 => ⟨?_, fun i => ?_⟩⟩, ?_, ?_, ⟨fun b hb _ h2 => ?_, ⟨fun _ h2 => ?_, fun _ h2 => ?_, fun _ h2 => ?_, fun _ h2 => ?_⟩, fun _ h2 => ?_⟩, fun v' j' t x' hP ht => ?_⟩
  · exact (hg 1 (by omega)).1.trans a3.1.1
  · exact (congrFun (hg 1 (by omega)).2.2 i).trans (a3.1.2 i)
  · exact (hg w (by omega)).1.trans (a3.2 w h1 h2).1
  · exact (congrFun (hg w (by omega)).2.2 i).trans ((a3.2 w h1 h2).2 i)
  · exact (hg 8 (by omega)).1.trans a4
  · exact (congrFun (hg 8 (by omega)).2.2 3).trans a5
  · by_cases c : n < b + 17
    · obtain ⟨z1, z2⟩ := x6 b hb c h2
      exact ⟨SS_gr z1 (fun w h1 h2 => ⟨rfl, hpn w (hsb b hb w h1 h2)⟩), z2⟩
    · obtain ⟨z1, z2⟩ := a6 b hb (by omega) (by omega)
      exact ⟨SS_gr z1 (fun w h1 h2 => ⟨(hg w (by omega)).1, (hpn w (hsb b hb w h1 h2)).trans (hg w (by omega)).2.1⟩), fun e => Nw_gr (z2 e) (fun w h1 h2 => (hg w (by omega)).2.2)⟩
  · by_cases c : n ≤ 43
    · exact y1 c h2
    · exact (hg 43 (by omega)).1.trans (b1 (by omega) (by omega))
  · by_cases c : n ≤ 146
    · exact y2 c h2
    · exact (hg 146 (by omega)).1.trans (b2 (by omega) (by omega))
  · by_cases c : n ≤ 181
    · exact y3 c h2
    · obtain ⟨z1, z2⟩ := b3 (by omega) (by omega)
      exact ⟨(hg 181 (by omega)).1.trans z1, fun i => (congrFun (hg 181 (by omega)).2.2 i).trans (z2 i)⟩
  · by_cases c : n ≤ 185
    · exact y4 c h2
    · exact (hg 185 (by omega)).1.trans (b4 (by omega) (by omega))
  · by_cases c : n < 185
    · obtain ⟨z1, z2, z3, z4, z5, z6⟩ := x7 c h2
      exact ⟨z1, (congrFun (hpn 182 (by omega)) 0).trans z2, (congrFun (hpn 182 (by omega)) 4).trans z3, z4, z5, z6⟩
    · obtain ⟨z1, z2, z3, z4, z5, z6⟩ := a7 (by omega) (by omega)
      exact ⟨(hg 182 (by omega)).1.trans z1, (congrFun ((hpn 182 (by omega)).trans (hg 182 (by omega)).2.1) 0).trans z2, (congrFun ((hpn 182 (by omega)).trans (hg 182 (by omega)).2.1) 4).trans z3, (hg 183 (by omega)).1.trans z4, (hg 184 (by omega)).1.trans z5, (congrFun (hg 182 (by omega)).2.2 1).trans z6⟩
  · by_cases c : n < t
    · obtain ⟨rfl, rfl, rfl⟩ := hu v' j' t x' hP c ht
      exact pr_wps _ _ _ _
    · have e : ¬ (v' = v ∧ j' = j) := fun z => by
        obtain ⟨rfl, rfl⟩ := z
        have := PT_u hP hp
        omega
      have hv' : v' < n := by
        have := PT_lt hP
        omega
      rw [pr_wpn e]
      exact (congrFun (hg v' hv').2.1 j').trans (a8 v' j' t x' hP (by omega))
theorem Bn_14 (h : Bn L xs σ n) (hs : stB n) (hp : PT v j (n + 17) n) : ∃ σ1, DoM 14 [.ref n] (nwM σ 1 2) = some (.inl none, σ1) ∧ tkM σ1 8 = (1, 4) ∧ tkM σ1 v = tkM σ v ∧ tkM σ1 n = (1, 2) ∧ Bn L xs (wpM σ1 v j n) (n + 17) := by
  obtain ⟨a1, a2, -⟩ := id h
  have e := tk_nw σ 1 2
  rw [a1] at e
  obtain ⟨σ1, x1, x2, x3, x4, x5⟩ := c14 (σ := nwM σ 1 2) (b := n) (by omega) (by rw [nx_nw, a1]) e
  have hg := Gr_tr (Gr_nw a1 1 2) x5
  have hv : v < n := by
    have := PT_lt hp
    unfold PT at hp
    clear h e x1 x2 x3 x4 x5 hg
    omega
  refine ⟨σ1, x1, (hg 8 (by omega)).1.trans h.2.2.2.1, (hg v hv).1, x2.2.1.1, Bn_st h hg x4 (by omega) hp (fun v' j' t x' hP h1 h2 => ?_) ⟨fun b hb h1 h2 => ?_, ⟨fun h1 h2 => ?_, fun h1 h2 => ?_, fun h1 h2 => ?_, fun h1 h2 => ?_⟩, fun h1 h2 => ?_⟩⟩
  · unfold PT at hp hP
    rcases hs with rfl | rfl | ⟨i, hi, rfl⟩ | ⟨i, hi, rfl⟩ <;> omega
  · obtain rfl : b = n := by
      rcases hs with rfl | rfl | ⟨i, hi, rfl⟩ | ⟨i, hi, rfl⟩ <;> rcases hb with rfl | rfl | ⟨i', hi', rfl⟩ | ⟨i', hi', rfl⟩ <;> omega
    exact ⟨x2, fun _ => x3⟩
  all_goals exfalso; rcases hs with rfl | rfl | ⟨i, hi, rfl⟩ | ⟨i, hi, rfl⟩ <;> omega
end Ma
