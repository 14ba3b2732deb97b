/-! The world: the object at 8, its present state f, its kept states H (c of them), its first slot g. -/
theorem rdf_out {n : Nat} {σ : Mem} {b v : Nat} {d : Nat → Nat → Int32} (h : ¬ (b ≤ v ∧ v < b + n)) : rdM (sB n σ b d) v = rdM σ v := funext fun j => rd_out h j
theorem rdf_in {n : Nat} {σ : Mem} {b u : Nat} {d : Nat → Nat → Int32} (h : u < n) : rdM (sB n σ b d) (b + u) = d u := funext fun j => rd_sB h j
theorem rdf_wr {σ : Mem} {v w j : Nat} {x : Int32} (h : ¬ v = w) : rdM (wrM σ w j x) v = rdM σ v := funext fun i => if_neg (fun z => h z.1)
theorem rd_wr_s (σ : Mem) (w j : Nat) (x : Int32) : rdM (wrM σ w j x) w j = x := if_pos ⟨rfl, rfl⟩
theorem rw_cg {τ τ' : Mem} {a : Nat} (h : ∀ v, a ≤ v → v < a + 17 → rdM τ' v = rdM τ v) : ∀ u, u < 17 → rw_ τ' a u = rw_ τ a u := fun u hu => h (a + u) (by omega) (by omega)
theorem RS_d {d d' : Nat → Nat → Int32} {f : Nat → Int32} (h : RlS d f) (e : ∀ u, u < 17 → d' u = d u) : RlS d' f := RS_eq h (EqS_d (by unfold EqS; exact ⟨⟨rfl, rfl, rfl, rfl⟩, fun _ _ => rfl, fun _ _ => rfl, fun _ _ => ⟨rfl, rfl, rfl, rfl⟩, fun _ _ => rfl, fun _ _ => ⟨rfl, rfl, rfl, rfl⟩, fun _ _ => ⟨rfl, rfl, rfl⟩⟩) e)
theorem RS_bool {d : Nat → Nat → Int32} {f : Nat → Int32} (h : RlS d f) : ∀ u, u < 6 → d 2 u = nQ 0 ∨ d 2 u = nQ 1 := by
  obtain ⟨n, hR, _⟩ := h
  intro u hu
  rw [hR.1.2.2 u hu]
  split
  · exact Or.inr rfl
  · exact Or.inl rfl
def FrW (τ τ' : Mem) : Prop := tkM τ' = tkM τ ∧ nxM τ' = nxM τ ∧ ∀ v, v < 8 ∨ 186 ≤ v → rdM τ' v = rdM τ v
theorem Fr_rfl (τ : Mem) : FrW τ τ := ⟨rfl, rfl, fun _ _ => rfl⟩
theorem Fr_tr {τ τ' τ'' : Mem} (h : FrW τ τ') (h' : FrW τ' τ'') : FrW τ τ'' := ⟨h'.1.trans h.1, h'.2.1.trans h.2.1, fun v hv => (h'.2.2 v hv).trans (h.2.2 v hv)⟩
def RV (τ : Mem) (f : Nat → Int32) (H : Nat → Nat → Int32) (c : Nat) : Prop := (WdX τ ∧ 186 ≤ nxM τ) ∧ c ≤ 6 ∧ RlS (rw_ τ 9) f ∧ rdM τ 8 3 = nQ c ∧ ∃ π, PmR τ π ∧ ∀ i, i < c → RlS (rw_ τ (44 + 17 * π i)) (H i)
def SlV (τ : Mem) (g : Nat → Int32) : Prop := rdM τ 181 0 = nQ 1 ∧ RlS (rw_ τ 147) g
def RW (τ : Mem) (f : Nat → Int32) (H : Nat → Nat → Int32) (c : Nat) (g : Nat → Int32) : Prop := RV τ f H c ∧ SlV τ g
theorem Sl_cg {τ τ' : Mem} {g : Nat → Int32} (h : SlV τ g) (e : ∀ v, 146 ≤ v → v < 182 → rdM τ' v = rdM τ v) : SlV τ' g := ⟨by rw [e 181 (by decide) (by decide)]; exact h.1, RS_d h.2 (rw_cg fun v h1 h2 => e v (by omega) (by omega))⟩
theorem SS_c2 {τ τ' : Mem} {b : Nat} (hs : ShS τ b) (h0 : tkM τ' b = tkM τ b) (h1 : ∀ j, j < 17 → tkM τ' (b + j) = tkM τ (b + j)) (p0 : prM τ' b = prM τ b) (p8 : prM τ' (b + 8) = prM τ (b + 8)) (p13 : prM τ' (b + 13) = prM τ (b + 13)) : ShS τ' b := by
  unfold ShS at hs ⊢
  rw [h0, h1 1 (by decide), h1 2 (by decide), h1 3 (by decide), h1 4 (by decide), h1 5 (by decide), h1 6 (by decide), h1 7 (by decide), h1 8 (by decide), h1 9 (by decide), h1 10 (by decide), h1 11 (by decide), h1 12 (by decide), h1 13 (by decide), h1 14 (by decide), h1 15 (by decide), h1 16 (by decide), p0, p8, p13]
  exact hs
theorem Wd_c2 {τ τ' : Mem} (h : WdX τ) (h1 : ∀ v, v < 186 → tkM τ' v = tkM τ v) (h2 : ∀ v, v < 186 → prM τ' v = prM τ v) : WdX τ' := by
  have S : ∀ b, b + 17 ≤ 186 → ShS τ b → ShS τ' b := fun b hb hs => SS_c2 hs (h1 b (by omega)) (fun j hj => h1 _ (by omega)) (h2 b (by omega)) (h2 _ (by omega)) (h2 _ (by omega))
  have i1 : ∀ i, i < 6 → 44 + 17 * i + 17 ≤ 186 := fun i hi => by omega
  have i2 : ∀ i, i < 2 → 147 + 17 * i + 17 ≤ 186 := fun i hi => by omega
  obtain ⟨a1, ⟨a2, a3, a4, a5⟩, a6⟩ := h
  refine ⟨?_, ⟨S 9 (by decide) a2, S 26 (by decide) a3, fun i hi => S _ (i1 i hi) (a4 i hi), fun i hi => ⟨?_, S _ (i2 i hi) (a5 i hi).2⟩⟩, ?_⟩
  · rw [h1 8 (by decide), h2 8 (by decide)]
    exact a1
  · rw [h2 146 (by decide)]
    exact (a5 i hi).1
  · rw [h1 43 (by decide), h1 146 (by decide), h1 181 (by decide), h1 182 (by decide), h1 183 (by decide), h1 184 (by decide), h1 185 (by decide), h2 182 (by decide)]
    exact a6
/-- nothing changed that counts -/
theorem RV_cg {τ τ' : Mem} {f : Nat → Int32} {H : Nat → Nat → Int32} {c : Nat} (h : RV τ f H c) (h1 : ∀ v, v < nxM τ → tkM τ' v = tkM τ v) (h2 : ∀ v, v < 186 → prM τ' v = prM τ v) (h3 : ∀ v, 8 ≤ v → v < 182 → rdM τ' v = rdM τ v) (hn : nxM τ ≤ nxM τ') : RV τ' f H c := by
  have r9 : ∀ u, u < 17 → rw_ τ' 9 u = rw_ τ 9 u := rw_cg fun v _ _ => h3 v (by omega) (by omega)
  have rk : ∀ k, k < 6 → ∀ u, u < 17 → rw_ τ' (44 + 17 * k) u = rw_ τ (44 + 17 * k) u := fun k hk => rw_cg fun v _ _ => h3 v (by omega) (by omega)
  obtain ⟨⟨hW, h186⟩, b1, b2, b3, π, b4, b5⟩ := h
  refine ⟨⟨Wd_c2 hW (fun v hv => h1 v (Nat.lt_of_lt_of_le hv h186)) h2, Nat.le_trans h186 hn⟩, b1, RS_d b2 r9, ?_, π, ⟨fun i hi => ?_, b4.2⟩, fun i hi => RS_d (b5 i hi) (rk _ (b4.1 i (Nat.lt_of_lt_of_le hi b1)).2)⟩
  · rw [h3 8 (by decide) (by decide)]
    exact b3
  · rw [h2 43 (by decide)]
    exact b4.1 i hi
theorem RW_cg {τ τ' : Mem} {f g : Nat → Int32} {H : Nat → Nat → Int32} {c : Nat} (h : RW τ f H c g) (h1 : ∀ v, v < nxM τ → tkM τ' v = tkM τ v) (h2 : ∀ v, v < 186 → prM τ' v = prM τ v) (h3 : ∀ v, 8 ≤ v → v < 182 → rdM τ' v = rdM τ v) (hn : nxM τ ≤ nxM τ') : RW τ' f H c g := ⟨RV_cg h.1 h1 h2 h3 hn, Sl_cg h.2 fun v a b => h3 v (by omega) b⟩
def hpF (H : Nat → Nat → Int32) (c : Nat) (f : Nat → Int32) : Nat → Nat → Int32 := fun i => if i = cuN c then f else H (if c = 6 then i + 1 else i)
/-- a state is kept, and then the present one changes -/
def KpX (τ τ1 : Mem) (f : Nat → Int32) (H : Nat → Nat → Int32) (c : Nat) : Prop := DoM 101 [.ref 8] τ = some (.inl none, τ1) ∧ WdX τ1 ∧ FrW τ τ1 ∧ (∀ v, (9 ≤ v ∧ v < 44) ∨ 146 ≤ v → rdM τ1 v = rdM τ v) ∧
  ∀ d' f', RlS d' f' → RV (sB 17 τ1 9 d') f' (hpF H c f) (csN c)
theorem Kp_ex {τ : Mem} {f : Nat → Int32} {H : Nat → Nat → Int32} {c : Nat} (h : RV τ f H c) : ∃ τ1, KpX τ τ1 f H c := by
  obtain ⟨⟨hW, h186⟩, h6, h0, hc, π, hP, hs⟩ := h
  obtain ⟨τ1, π', y1, y2, y3, y4, yn, y5, y6, y7, y8⟩ := c101 hW hP hc h6 (RS_bool h0)
  refine ⟨τ1, y1, y2, ⟨y4, yn, fun v hv => y6 v (by omega)⟩, fun v hv => y6 v (by omega), fun d' f' hS => ?_⟩
  have hc' : csN c ≤ 6 := by unfold csN; split <;> omega
  have hcu : cuN c + 1 = csN c := by unfold csN cuN; split <;> omega
  have r9 : ∀ u, u < 17 → rw_ (sB 17 τ1 9 d') 9 u = d' u := fun u hu => rdf_in hu
  refine ⟨⟨y2, by show 186 ≤ nxM τ1; omega⟩, hc', RS_d hS r9, by rw [rdf_out (by omega)]; exact y5, π', y3, fun i hi => ?_⟩
  have hrow : ∀ u, u < 17 → rw_ (sB 17 τ1 9 d') (44 + 17 * π' i) u = rw_ τ1 (44 + 17 * π' i) u := rw_cg (fun v h1 h2 => rdf_out (by omega))
  refine RS_d ?_ hrow
  unfold hpF
  by_cases e : i = cuN c
  · rw [if_pos e, e]
    exact RS_eq h0 y7
  · rw [if_neg e]
    have hi' : i < cuN c := by omega
    exact RS_d (hs _ (by unfold cuN at hi'; split <;> split at hi' <;> omega)) (y8 i hi')
theorem RV_n {τ : Mem} {f : Nat → Int32} {H : Nat → Nat → Int32} {c n : Nat} (h : RV τ f H c) (hn : f 4 = nQ n) (h60 : n ≤ 60) : RlC (rw_ τ 9) f (fun k => usF f (nQ (k / 2)) (k - k / 2 * 2) n) ∧ FlR (rw_ τ 9) f n ∧ InvF f n := by
  obtain ⟨_, _, ⟨n', a1, a2, a3⟩, _⟩ := h
  have e := a2.2.1
  rw [hn, nQ_eq (by omega) (by have := a2.2.2.1; omega)] at e
  subst e
  exact ⟨a1, a2, a3⟩
theorem Kp_n {τ τ1 : Mem} {f : Nat → Int32} {H : Nat → Nat → Int32} {c n : Nat} (h : RV τ f H c) (hK : KpX τ τ1 f H c) (hn : f 4 = nQ n) (h60 : n ≤ 60) : (RlC (rw_ τ1 9) f (fun k => usF f (nQ (k / 2)) (k - k / 2 * 2) n) ∧ FlR (rw_ τ1 9) f n ∧ InvF f n) ∧ ∀ u, u < 17 → rw_ τ1 9 u = rw_ τ 9 u := by
  have hrow : ∀ u, u < 17 → rw_ τ1 9 u = rw_ τ 9 u := rw_cg (fun v h1 h2 => hK.2.2.2.1 v (by omega))
  have hS : RlS (rw_ τ 9) f := h.2.2.1
  obtain ⟨n', a1, a2, a3⟩ := RS_d hS hrow
  have e := a2.2.1
  rw [hn, nQ_eq (by omega) (by have := a2.2.2.1; omega)] at e
  subst e
  exact ⟨⟨a1, a2, a3⟩, hrow⟩
theorem Kp_w {τ τ1 : Mem} {f : Nat → Int32} {H : Nat → Nat → Int32} {c : Nat} (hK : KpX τ τ1 f H c) : DoM 101 [.ref 8] τ = some (.inl none, sB 17 τ1 9 (rw_ τ1 9)) := by
  rw [sB_rw]
  exact hK.1
theorem Kp_fr {τ τ1 : Mem} {f : Nat → Int32} {H : Nat → Nat → Int32} {c : Nat} (hK : KpX τ τ1 f H c) (d' : Nat → Nat → Int32) : FrW τ (sB 17 τ1 9 d') := ⟨hK.2.2.1.1, hK.2.2.1.2.1, fun v hv => (rdf_out (by omega)).trans (hK.2.2.1.2.2 v hv)⟩
theorem Kp_sl {τ τ1 : Mem} {f g : Nat → Int32} {H : Nat → Nat → Int32} {c : Nat} (hK : KpX τ τ1 f H c) (h : SlV τ g) (d' : Nat → Nat → Int32) : SlV (sB 17 τ1 9 d') g := Sl_cg h fun v h1 h2 => (rdf_out (by omega)).trans (hK.2.2.2.1 v (by omega))
/-- an operation: its answer, and the world behind it -/
def OpR (τ : Mem) (k : Nat) (as : List Value) (v : Int32) (f' g : Nat → Int32) (H : Nat → Nat → Int32) (c : Nat) : Prop := ∃ τ', DoM k (.ref 8 :: as) τ = some (.inl (some (.int v)), τ') ∧ RW τ' f' H c g ∧ FrW τ τ'
theorem Op_of {τ τ1 : Mem} {f f' g : Nat → Int32} {H : Nat → Nat → Int32} {c k : Nat} {as : List Value} {v : Int32} {d' : Nat → Nat → Int32} (h : RW τ f H c g) (hK : KpX τ τ1 f H c) (hw : DoM k (.ref 8 :: as) τ = some (.inl (some (.int v)), sB 17 τ1 9 d')) (hS : RlS d' f') : OpR τ k as v f' g (hpF H c f) (csN c) :=
  ⟨_, hw, ⟨hK.2.2.2.2 d' f' hS, Kp_sl hK h.2 d'⟩, Kp_fr hK d'⟩
