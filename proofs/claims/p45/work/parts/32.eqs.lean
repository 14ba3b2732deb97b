/-! The runs' equations. -/
theorem st_mono2 {Φ Φ' : Nat → List Value → Mem → Option OutM} {K K' : FrM → Mem → Option OutM} {k : Nat} {ic : IcM} {fr : FrM} {σ : Mem} {o : OutM} (hΦ : ∀ k' as σ' o', Φ k' as σ' = some o' → Φ' k' as σ' = some o') (hK : ∀ fr' σ' o, K fr' σ' = some o → K' fr' σ' = some o) (h : stM Φ K k ic fr σ = some o) : stM Φ' K' k ic fr σ = some o := by
  obtain ⟨n, hn⟩ := ev_st (Φ' := fun _ => Φ') (K' := fun _ => K') (fun k' as σ' o' h => ev_c (hΦ _ _ _ _ h)) (fun fr' σ' h => ev_c (hK fr' σ' _ h)) h
  exact hn n (Nat.le_refl n)
theorem run_mono : ∀ (n k : Nat) (fr : FrM) (σ : Mem) (o : OutM), runM n k fr σ = some o → runM (n + 1) k fr σ = some o
  | 0, k, fr, σ, o, h => by cases h
  | n + 1, k, fr, σ, o, h => by
    unfold runM at h ⊢
    cases hc : cdM k fr.1 with
    | none => rw [hc] at h; cases h
    | some ic =>
      rw [hc] at h
      dsimp only at h ⊢
      exact st_mono2 (fun k' as σ' o' => run_mono n k' (enM k' as) σ' o') (fun fr' σ' o => run_mono n k fr' σ' o) h
theorem run_Ru {n k : Nat} {fr : FrM} {σ : Mem} {o : OutM} (h : runM n k fr σ = some o) : RuM k fr σ = some o := by
  refine Ru_iff.mpr ⟨n, fun m hm => ?_⟩
  induction hm with
  | refl => exact h
  | step _ ih => exact run_mono _ _ _ _ _ ih
theorem op_ext {α : Type} {a b : Option α} (h1 : ∀ o, a = some o → b = some o) (h2 : ∀ o, b = some o → a = some o) : a = b := by
  cases a with
  | some x => exact (h1 x rfl).symm
  | none => cases b with
    | none => rfl
    | some y => exact (h2 y rfl)
theorem Ru_eq {k : Nat} {fr : FrM} {σ : Mem} : RuM k fr σ = match cdM k fr.1 with
    | some ic => stM DoM (RuM k) k ic fr σ
    | none => none := by
  refine op_ext (fun o h => ?_) (fun o h => ?_)
  · obtain ⟨n, hn⟩ := Ru_iff.mp h
    have h1 : (match cdM k fr.1 with
      | some ic => stM (fun k' as σ' => runM n k' (enM k' as) σ') (runM n k) k ic fr σ
      | none => none) = some o := hn (n + 1) (Nat.le_succ n)
    cases hc : cdM k fr.1 with
    | none => rw [hc] at h1; cases h1
    | some ic =>
      rw [hc] at h1
      exact st_mono2 (fun k' as σ' o' h => run_Ru h) (fun fr' σ' o h => run_Ru h) h1
  · cases hc : cdM k fr.1 with
    | none => rw [hc] at h; cases h
    | some ic => rw [hc] at h; exact Ru_step hc h
theorem Ru_Q {k : Nat} (cuts : List Nat) (j : Nat) : ∀ (fr : FrM) (σ : Mem), RuM k fr σ = stC DoM (RuM k) k cuts j fr σ := by
  induction j with
  | zero => exact fun _ _ => rfl
  | succ j ih =>
    rintro ⟨pc, ls, st, kc, ks⟩ σ
    have e : cuM cuts (RuM k) (stC DoM (RuM k) k cuts j) = RuM k := by
      funext fr' σ'
      obtain ⟨pc', ls', st', kc', ks'⟩ := fr'
      show (bif cuts.elem pc' then RuM k (pc', ls', st', kc', ks') σ' else stC DoM (RuM k) k cuts j (pc', ls', st', kc', ks') σ') = _
      cases cuts.elem pc' with
      | true => rfl
      | false => exact (ih _ _).symm
    rw [Ru_eq]
    unfold stC
    rw [e]
    rfl
theorem Do_Q (k : Nat) (as : List Value) (σ : Mem) : DoM k as σ = RuM k (enM k as) σ := rfl
