theorem ic_cases (ic : IcM) : ¬ spM ic ∨ psM ic ∨ pnM ic ∨ pcM ic := by
  obtain ⟨i, len, a, c⟩ := ic
  cases i <;> first | exact Or.inl (fun z => z) | exact Or.inr (Or.inl trivial) | exact Or.inr (Or.inr (Or.inl trivial)) | exact Or.inr (Or.inr (Or.inr trivial))
theorem sim_run {G : GlM} {l : Launch} (hMt : ∀ k, 0 ≤ k → k < 114 → MtP k) (hC : ∀ k, k < 114 → ∀ pc ic, cdM k pc = some ic → okM k pc ic = true) : ∀ (n k : Nat), k < 114 → ∀ (fr : FrM) (σ : Mem) (o : OutM), runM n k fr σ = some o → WsM G l k fr σ o := by
  intro n
  induction n with
  | zero => intro k hk fr σ o h; cases h
  | succ n ih =>
    intro k hk fr σ o h
    unfold runM at h
    split at h
    · next ic hc =>
      have hmt := hMt k (Nat.zero_le _) hk
      have hok := hC k hk fr.1 ic hc
      rcases ic_cases ic with h1 | h1 | h1 | h1
      · exact sim_a hmt (fun fr' σ' g => ih k hk fr' σ' o g) hok h1 h
      · exact sim_b hmt (fun fr' σ' g => ih k hk fr' σ' o g) hok h1 h
      · exact sim_c hmt (fun fr' σ' g => ih k hk fr' σ' o g) hok h1 h
      · exact sim_d hMt hk (fun k' as σ' o' hk' g => ih k' (by omega) _ σ' o' g) (fun fr' σ' g => ih k hk fr' σ' o g) hok h1 h
    · cases h
theorem sim_Do {G : GlM} {l : Launch} (hMt : ∀ k, 0 ≤ k → k < 114 → MtP k) (hC : ∀ k, k < 114 → ∀ pc ic, cdM k pc = some ic → okM k pc ic = true) {k : Nat} (hk : k < 114) {as : List Value} {σ : Mem} {o : OutM} (h : DoM k as σ = some o) : WsM G l k (enM k as) σ o := by
  obtain ⟨n, hn⟩ := Ru_iff.mp h
  exact sim_run hMt hC n k hk _ _ _ (hn n (Nat.le_refl n))
