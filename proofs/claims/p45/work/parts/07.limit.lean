/-- from some number of steps on -/
def EvM (F : Nat → Option OutM) (o : OutM) : Prop := ∃ n, ∀ m, n ≤ m → F m = some o
theorem ev_c {x : Option OutM} {o : OutM} (h : x = some o) : EvM (fun _ => x) o := ⟨0, fun _ _ => h⟩
theorem ev_ite {c : Prop} [Decidable c] {A B : Option OutM} {A' B' : Nat → Option OutM} {o : OutM} (h : (if c then A else B) = some o) (ha : A = some o → EvM A' o) (hb : B = some o → EvM B' o) : EvM (fun m => if c then A' m else B' m) o := by
  by_cases hc : c
  · rw [if_pos hc] at h
    obtain ⟨n, hn⟩ := ha h
    exact ⟨n, fun m hm => (if_pos hc).trans (hn m hm)⟩
  · rw [if_neg hc] at h
    obtain ⟨n, hn⟩ := hb h
    exact ⟨n, fun m hm => (if_neg hc).trans (hn m hm)⟩
theorem ev_bif {c : Bool} {A B : Option OutM} {A' B' : Nat → Option OutM} {o : OutM} (h : (bif c then A else B) = some o) (ha : A = some o → EvM A' o) (hb : B = some o → EvM B' o) : EvM (fun m => bif c then A' m else B' m) o := by
  cases c
  · exact hb h
  · exact ha h
theorem ev_no {F : Nat → Option OutM} {o : OutM} (h : (none : Option OutM) = some o) : EvM F o := by cases h
theorem ev_I1 {f : Int32 → List Value → Option OutM} {f' : Nat → Int32 → List Value → Option OutM} {st : List Value} {o : OutM} (h : sI1 f st = some o) (k : ∀ x r, f x r = some o → EvM (fun m => f' m x r) o) : EvM (fun m => sI1 (f' m) st) o := by
  unfold sI1 at h ⊢
  split at h
  · exact k _ _ h
  · cases h
theorem ev_I2 {f : Int32 → Int32 → List Value → Option OutM} {f' : Nat → Int32 → Int32 → List Value → Option OutM} {st : List Value} {o : OutM} (h : sI2 f st = some o) (k : ∀ x y r, f x y r = some o → EvM (fun m => f' m x y r) o) : EvM (fun m => sI2 (f' m) st) o := by
  unfold sI2 at h ⊢
  split at h
  · exact k _ _ _ h
  · cases h
theorem ev_L2 {f : Int64 → Int64 → List Value → Option OutM} {f' : Nat → Int64 → Int64 → List Value → Option OutM} {st : List Value} {o : OutM} (h : sL2 f st = some o) (k : ∀ x y r, f x y r = some o → EvM (fun m => f' m x y r) o) : EvM (fun m => sL2 (f' m) st) o := by
  unfold sL2 at h ⊢
  split at h
  · exact k _ _ _ h
  · cases h
theorem ev_L1 {f : Int64 → List Value → Option OutM} {f' : Nat → Int64 → List Value → Option OutM} {st : List Value} {o : OutM} (h : sL1 f st = some o) (k : ∀ x r, f x r = some o → EvM (fun m => f' m x r) o) : EvM (fun m => sL1 (f' m) st) o := by
  unfold sL1 at h ⊢
  split at h
  · exact k _ _ h
  · cases h
theorem ev_R1 {f : Nat → List Value → Option OutM} {f' : Nat → Nat → List Value → Option OutM} {st : List Value} {o : OutM} (h : sR1 f st = some o) (k : ∀ x r, f x r = some o → EvM (fun m => f' m x r) o) : EvM (fun m => sR1 (f' m) st) o := by
  unfold sR1 at h ⊢
  split at h
  · exact k _ _ h
  · cases h
theorem ev_IR {f : Int32 → Nat → List Value → Option OutM} {f' : Nat → Int32 → Nat → List Value → Option OutM} {st : List Value} {o : OutM} (h : sIR f st = some o) (k : ∀ x y r, f x y r = some o → EvM (fun m => f' m x y r) o) : EvM (fun m => sIR (f' m) st) o := by
  unfold sIR at h ⊢
  split at h
  · exact k _ _ _ h
  · cases h
theorem ev_RR {f : Nat → Nat → List Value → Option OutM} {f' : Nat → Nat → Nat → List Value → Option OutM} {st : List Value} {o : OutM} (h : sRR f st = some o) (k : ∀ x y r, f x y r = some o → EvM (fun m => f' m x y r) o) : EvM (fun m => sRR (f' m) st) o := by
  unfold sRR at h ⊢
  split at h
  · exact k _ _ _ h
  · cases h
theorem ev_IIR {f : Int32 → Int32 → Nat → List Value → Option OutM} {f' : Nat → Int32 → Int32 → Nat → List Value → Option OutM} {st : List Value} {o : OutM} (h : sIIR f st = some o) (k : ∀ x y z r, f x y z r = some o → EvM (fun m => f' m x y z r) o) : EvM (fun m => sIIR (f' m) st) o := by
  unfold sIIR at h ⊢
  split at h
  · exact k _ _ _ _ h
  · cases h
theorem ev_RIR {f : Nat → Int32 → Nat → List Value → Option OutM} {f' : Nat → Nat → Int32 → Nat → List Value → Option OutM} {st : List Value} {o : OutM} (h : sRIR f st = some o) (k : ∀ x y z r, f x y z r = some o → EvM (fun m => f' m x y z r) o) : EvM (fun m => sRIR (f' m) st) o := by
  unfold sRIR at h ⊢
  split at h
  · exact k _ _ _ _ h
  · cases h
theorem ev_Cp {f : Int32 → Int32 → Nat → Int32 → Nat → List Value → Option OutM} {f' : Nat → Int32 → Int32 → Nat → Int32 → Nat → List Value → Option OutM} {st : List Value} {o : OutM} (h : sCp f st = some o) (k : ∀ x y z u v r, f x y z u v r = some o → EvM (fun m => f' m x y z u v r) o) : EvM (fun m => sCp (f' m) st) o := by
  unfold sCp at h ⊢
  split at h
  · exact k _ _ _ _ _ _ h
  · cases h
theorem ev_oI {f : Int32 → Option OutM} {f' : Nat → Int32 → Option OutM} {v : Option Value} {o : OutM} (h : oI f v = some o) (k : ∀ x, f x = some o → EvM (fun m => f' m x) o) : EvM (fun m => oI (f' m) v) o := by
  unfold oI at h ⊢
  split at h
  · exact k _ h
  · cases h
theorem ev_oL {f : Int64 → Option OutM} {f' : Nat → Int64 → Option OutM} {v : Option Value} {o : OutM} (h : oL f v = some o) (k : ∀ x, f x = some o → EvM (fun m => f' m x) o) : EvM (fun m => oL (f' m) v) o := by
  unfold oL at h ⊢
  split at h
  · exact k _ h
  · cases h
theorem ev_oR {f : Nat → Option OutM} {f' : Nat → Nat → Option OutM} {v : Option Value} {o : OutM} (h : oR f v = some o) (k : ∀ x, f x = some o → EvM (fun m => f' m x) o) : EvM (fun m => oR (f' m) v) o := by
  unfold oR at h ⊢
  split at h
  · exact k _ h
  · cases h
theorem ev_rc {n : Nat} {f : Nat → Option OutM} {f' : Nat → Nat → Option OutM} {st : List Value} {o : OutM} (h : rcM_ n f st = some o) (k : ∀ x, f x = some o → EvM (fun m => f' m x) o) : EvM (fun m => rcM_ n (f' m) st) o := by
  unfold rcM_ at h ⊢
  split at h
  · exact k _ h
  · cases h
theorem ev_sw {x : Int32} {d : Nat} {f : Nat → Option OutM} {f' : Nat → Nat → Option OutM} {o : OutM} (k : ∀ t, f t = some o → EvM (fun m => f' m t) o) : ∀ (l : List Nat), swM x d f l = some o → EvM (fun m => swM x d (f' m) l) o
  | [], h => k _ h
  | [_], h => k _ h
  | a :: t :: r, h => by
    unfold swM at h ⊢
    exact ev_ite h (fun h => k _ h) (fun h => ev_sw k r h)
theorem ev_ca {Φ : Nat → List Value → Mem → Option OutM} {K : FrM → Mem → Option OutM} {Φ' : Nat → Nat → List Value → Mem → Option OutM} {K' : Nat → FrM → Mem → Option OutM} {k : Nat} {a : List Nat} {fr : FrM} {σ : Mem} {o : OutM}
    (hΦ : ∀ k' as σ' o', Φ k' as σ' = some o' → EvM (fun m => Φ' m k' as σ') o') (hK : ∀ fr' σ', K fr' σ' = some o → EvM (fun m => K' m fr' σ') o) (h : caM Φ K k a fr σ = some o) : EvM (fun m => caM (Φ' m) (K' m) k a fr σ) o := by
  obtain ⟨pc, ls, st, kc, ks⟩ := fr
  unfold caM at h ⊢
  dsimp only at h ⊢
  refine ev_ite h (fun h => ?_) (fun h => ev_no h)
  cases e : Φ (gaM a 0) (st.take (gaM a 1)).reverse σ with
  | none => rw [e] at h; cases h
  | some p =>
    rw [e] at h
    obtain ⟨n1, h1⟩ := hΦ _ _ _ _ e
    obtain ⟨v, σ'⟩ := p
    cases v with
    | inl v =>
      obtain ⟨n2, h2⟩ := hK _ _ h
      exact ⟨max n1 n2, fun m hm => by dsimp only; rw [show Φ' m (gaM a 0) (st.take (gaM a 1)).reverse σ = _ from h1 m (by omega)]; exact h2 m (by omega)⟩
    | inr E => cases h
set_option maxHeartbeats 4000000 in
theorem ev_st {Φ : Nat → List Value → Mem → Option OutM} {K : FrM → Mem → Option OutM} {Φ' : Nat → Nat → List Value → Mem → Option OutM} {K' : Nat → FrM → Mem → Option OutM} {k : Nat} {ic : IcM} {fr : FrM} {σ : Mem} {o : OutM}
    (hΦ : ∀ k' as σ' o', Φ k' as σ' = some o' → EvM (fun m => Φ' m k' as σ') o') (hK : ∀ fr' σ', K fr' σ' = some o → EvM (fun m => K' m fr' σ') o) (h : stM Φ K k ic fr σ = some o) : EvM (fun m => stM (Φ' m) (K' m) k ic fr σ) o := by
  obtain ⟨pc, ls, st, kc, ks⟩ := fr
  obtain ⟨i, len, a, c⟩ := ic
  cases i
  case ifCond op off => cases op <;> exact ev_I1 h (fun _ _ h => ev_ite h (fun h => hK _ _ h) (fun h => hK _ _ h))
  case if_icmp op off => cases op <;> exact ev_I2 h (fun _ _ _ h => ev_ite h (fun h => hK _ _ h) (fun h => hK _ _ h))
  case tableswitch => exact ev_I1 h (fun _ _ h => ev_sw (fun _ h => hK _ _ h) _ h)
  case invokevirtual => exact ev_rc h (fun _ h => ev_ite h (fun h => ev_ca (a := a) (fr := (pc, ls, st, kc, ks)) (Φ' := Φ') (K' := K') hΦ hK h) (fun h => ev_no h))
  case invokespecial => exact ev_bif h (fun h => ev_R1 h (fun _ _ h => ev_ite h (fun h => hK _ _ h) (fun h => ev_no h))) (fun h => ev_rc h (fun _ h => ev_ite h (fun h => ev_ca (a := a) (fr := (pc, ls, st, kc, ks)) (Φ' := Φ') (K' := K') hΦ hK h) (fun h => ev_no h)))
  case invokestatic =>
    exact ev_bif h (fun h => ev_I2 h (fun _ _ _ h => ev_ite h (fun h => hK _ _ h) (fun h => ev_no h))) (fun h =>
      ev_bif h (fun h => ev_I2 h (fun _ _ _ h => ev_ite h (fun h => hK _ _ h) (fun h => ev_no h))) (fun h =>
      ev_bif h (fun h => ev_Cp h (fun _ _ _ _ _ _ h => ev_ite h (fun h => hK _ _ h) (fun h => ev_no h))) (fun h => ev_ca (a := a) (fr := (pc, ls, st, kc, ks)) (Φ' := Φ') (K' := K') hΦ hK h)))
  case new => exact ev_ite h (fun h => hK _ _ h) (fun h => ev_no h)
  case putfield =>
    exact ev_bif h (fun h => ev_RR h (fun _ _ _ h => ev_ite h (fun h => hK _ _ h) (fun h => ev_no h))) (fun h =>
      ev_bif h (fun h => ev_IR h (fun _ _ _ h => ev_ite h (fun h => hK _ _ h) (fun h => ev_no h))) (fun h => ev_IR h (fun _ _ _ h => ev_ite h (fun h => hK _ _ h) (fun h => ev_no h))))
  case dup =>
    cases st with
    | nil => exact ev_no h
    | cons v r => exact ev_bif h (fun h => hK _ _ h) (fun h => ev_no h)
  case pop =>
    cases st with
    | nil => exact ev_no h
    | cons v r => exact ev_bif h (fun h => hK _ _ h) (fun h => ev_no h)
  case dup2 =>
    cases st with
    | nil => exact ev_no h
    | cons v r => cases r with
      | nil => exact ev_no h
      | cons w r => exact ev_bif h (fun h => hK _ _ h) (fun h => ev_no h)
  all_goals first
    | exact hK _ _ h
    | exact ev_c h
    | exact ev_I1 h (fun _ _ h => hK _ _ h)
    | exact ev_I1 h (fun _ _ h => ev_ite h (fun h => hK _ _ h) (fun h => ev_no h))
    | exact ev_I2 h (fun _ _ _ h => hK _ _ h)
    | exact ev_I2 h (fun _ _ _ h => ev_ite h (fun h => ev_no h) (fun h => hK _ _ h))
    | exact ev_L2 h (fun _ _ _ h => hK _ _ h)
    | exact ev_R1 h (fun _ _ h => hK _ _ h)
    | exact ev_oI h (fun _ h => hK _ _ h)
    | exact ev_oR h (fun _ h => hK _ _ h)
    | exact ev_R1 h (fun _ _ h => ev_ite h (fun h => hK _ _ h) (fun h => ev_no h))
    | exact ev_IR h (fun _ _ _ h => ev_ite h (fun h => hK _ _ h) (fun h => ev_no h))
    | exact ev_IIR h (fun _ _ _ _ h => ev_ite h (fun h => hK _ _ h) (fun h => ev_no h))
    | exact ev_L1 h (fun _ _ h => hK _ _ h)
    | exact ev_oL h (fun _ h => hK _ _ h)
    | exact ev_RIR h (fun _ _ _ _ h => ev_ite h (fun h => hK _ _ h) (fun h => ev_no h))
noncomputable def RuM (k : Nat) (fr : FrM) (σ : Mem) : Option OutM := @dite _ (∃ o, EvM (fun n => runM n k fr σ) o) (Classical.propDecidable _) (fun h => some (Classical.choose h)) (fun _ => none)
theorem ev_det {F : Nat → Option OutM} {o o' : OutM} (h : EvM F o) (h' : EvM F o') : o = o' := by
  obtain ⟨n, hn⟩ := h
  obtain ⟨m, hm⟩ := h'
  have h1 := hn (max n m) (by omega)
  have h2 := hm (max n m) (by omega)
  exact Option.some.inj (h1.symm.trans h2)
theorem Ru_iff {k : Nat} {fr : FrM} {σ : Mem} {o : OutM} : RuM k fr σ = some o ↔ EvM (fun n => runM n k fr σ) o := by
  unfold RuM
  constructor
  · intro h
    split at h
    · next hx => rw [← Option.some.inj h]; exact Classical.choose_spec hx
    · cases h
  · intro h
    have hx : ∃ o, EvM (fun n => runM n k fr σ) o := ⟨o, h⟩
    rw [dif_pos hx, ev_det h (Classical.choose_spec hx)]
/-- a method's run -/
noncomputable def DoM (k : Nat) (as : List Value) (σ : Mem) : Option OutM := RuM k (enM k as) σ
theorem Do_of {k : Nat} {as : List Value} {σ : Mem} {o : OutM} (h : RuM k (enM k as) σ = some o) : DoM k as σ = some o := h
theorem Ru_step {k : Nat} {fr : FrM} {σ : Mem} {o : OutM} {ic : IcM} (hc : cdM k fr.1 = some ic) (h : stM DoM (RuM k) k ic fr σ = some o) : RuM k fr σ = some o := by
  refine Ru_iff.mpr ?_
  obtain ⟨n, hn⟩ := ev_st (Φ' := fun n k' as σ' => runM n k' (enM k' as) σ') (K' := fun n => runM n k) (fun k' as σ' o' h => Ru_iff.mp h) (fun fr' σ' h => Ru_iff.mp h) h
  refine ⟨n + 1, fun m hm => ?_⟩
  obtain ⟨m, rfl⟩ : ∃ m', m = m' + 1 := ⟨m - 1, by omega⟩
  show (match cdM k fr.1 with
    | some ic => stM (fun k' as σ' => runM m k' (enM k' as) σ') (runM m k) k ic fr σ
    | none => none) = some o
  rw [hc]
  exact hn m (by omega)
/-- several steps at once, up to the places in cuts -/
def cuM (cuts : List Nat) (R S : FrM → Mem → Option OutM) : FrM → Mem → Option OutM
  | (pc, ls, st, kc, ks), σ => bif cuts.elem pc then R (pc, ls, st, kc, ks) σ else S (pc, ls, st, kc, ks) σ
def stC (D : Nat → List Value → Mem → Option OutM) (R : FrM → Mem → Option OutM) (k : Nat) (cuts : List Nat) : Nat → FrM → Mem → Option OutM
  | 0, fr, σ => R fr σ
  | j + 1, (pc, ls, st, kc, ks), σ => match cdM k pc with
    | some ic => stM D (cuM cuts R (stC D R k cuts j)) k ic (pc, ls, st, kc, ks) σ
    | none => none
theorem st_mono {Φ : Nat → List Value → Mem → Option OutM} {K K' : FrM → Mem → Option OutM} {k : Nat} {ic : IcM} {fr : FrM} {σ : Mem} {o : OutM} (hK : ∀ fr' σ', K fr' σ' = some o → K' fr' σ' = some o) (h : stM Φ K k ic fr σ = some o) : stM Φ K' k ic fr σ = some o := by
  obtain ⟨n, hn⟩ := ev_st (Φ' := fun _ => Φ) (K' := fun _ => K') (fun k' as σ' o' h => ev_c h) (fun fr' σ' h => ev_c (hK _ _ h)) h
  exact hn n (Nat.le_refl n)
theorem Ru_C {k : Nat} (cuts : List Nat) (j : Nat) {o : OutM} : ∀ {fr : FrM} {σ : Mem}, stC DoM (RuM k) k cuts j fr σ = some o → RuM k fr σ = some o := by
  induction j with
  | zero => exact fun h => h
  | succ j ih =>
    rintro ⟨pc, ls, st, kc, ks⟩ σ h
    unfold stC at h
    split at h
    · next ic hc =>
      refine Ru_step (fr := (pc, ls, st, kc, ks)) hc (st_mono (fun fr' σ' h => ?_) h)
      obtain ⟨pc', ls', st', kc', ks'⟩ := fr'
      unfold cuM at h
      dsimp only at h
      cases e : cuts.elem pc' with
      | true => rw [e] at h; exact h
      | false => rw [e] at h; exact ih h
    · cases h
