theorem Rp_okT {G : GlM} {ad : Nat → Nat} {σ : Mem} {H : Heap} (h : RpM G ad σ H) : okT G σ := h.2.2.1
/-- an object that is written: the memory and the heap behind -/
theorem Rp_set {G : GlM} {ad : Nat → Nat} {σ σ' : Mem} {H H' : Heap} {v : Nat} (h : RpM G ad σ H) (h1 : 8 ≤ v) (h2 : v < nxM σ) (hn : nxM σ' = nxM σ) (ht : ∀ u, tkM σ' u = tkM σ u) (hr : ∀ u j, u ≠ v → rdM σ' u j = rdM σ u j) (hp : ∀ u j, u ≠ v → prM σ' u j = prM σ u j) (hw : ∀ j, prM σ' v j < nxM σ)
    (hP : va_P (gD G) vwCl ((csM (gC G) ad σ).set (v - 8) (ad v, ceM (gC G) ad σ' v)) H') (hD : va_D (gU G) ((csM (gC G) ad σ).set (v - 8) (ad v, ceM (gC G) ad σ' v))) : RpM G ad σ' H' := by
  obtain ⟨-, -, ⟨a1, a2, a3, a4, a5⟩, a6⟩ := h
  have e := cs_set (c := gC G) (ad := ad) h1 h2 hn ht hr hp
  refine ⟨by rw [e]; exact hP, by rw [e]; exact hD, ⟨by rw [hn]; exact a1, fun u hu => by rw [ht]; exact a2 u (by rw [← hn]; exact hu), by rw [ht]; exact a3, fun u j => ?_, fun u p q => ?_⟩, a6⟩
  · by_cases hu : u = v
    · subst hu; rw [hn]; exact hw j
    · rw [hp u j hu, hn]; exact a4 u j
  · rw [ht]
    exact ⟨(a5 u p q).1, fun j => by rw [hr u j (by omega)]; exact (a5 u p q).2 j⟩
theorem tk_kind {G : GlM} {σ : Mem} {v κ : Nat} (h : okT G σ) (hk : (tkM σ v).1 = κ) (h1 : 1 ≤ κ) : v < nxM σ ∧ v ≠ 0 ∧ (κ ≠ 2 → 8 ≤ v) := by
  obtain ⟨a1, a2, a3, a4, a5⟩ := h
  refine ⟨?_, ?_, fun hne => ?_⟩
  · rcases Nat.lt_or_ge v (nxM σ) with q | q
    · exact q
    · have := a2 v q; omega
  · intro e; subst e; rw [a3] at hk; have hk : 0 = κ := hk; omega
  · rcases Nat.lt_or_ge v 8 with q | q
    · by_cases e : v = 0
      · subst e; rw [a3] at hk; have hk : 0 = κ := hk; omega
      · have := (a5 v (by omega) q).1
        rw [this] at hk
        exact absurd hk.symm hne
    · exact q
theorem ce_obj {c : Nat → ClassId} {ad : Nat → Nat} {σ : Mem} {v ci : Nat} (h : tkM σ v = (1, ci)) : ceM c ad σ v = .inr (ci, (List.range (clM ci).2.2).map fun k => bif Nat.beq (fkN ci k) 1 then vaM ad (.ref (prM σ v k)) else .int (rdM σ v k)) := by
  unfold ceM ceK; rw [h]; rfl
theorem ce_int {c : Nat → ClassId} {ad : Nat → Nat} {σ : Mem} {v κ : Nat} (h : (tkM σ v).1 = κ) (hκ : κ = 2 ∨ κ = 3 ∨ κ = 4) : ceM c ad σ v = .inl (c κ, (tkM σ v).2, .inl (rdM σ v)) := by
  unfold ceM ceK; rw [h]; rcases hκ with rfl | rfl | rfl <;> rfl
theorem ce_ref {c : Nat → ClassId} {ad : Nat → Nat} {σ : Mem} {v : Nat} (h : (tkM σ v).1 = 6) : ceM c ad σ v = .inl (c 6, (tkM σ v).2, .inr (.inr (.inr (.inr fun j => rfM ad (prM σ v j))))) := by
  unfold ceM ceK; rw [h]; rfl
theorem va_nz {ad : Nat → Nat} {v : Nat} (h : v ≠ 0) : vaM ad (.ref v) = .ref (ad v) := by
  show va_rf (rfM ad v) = _
  unfold rfM; rw [if_neg h]; rfl
theorem cl_at {ci : Nat} (h : ci < 5) : vwCl[ci]? = some (clM ci) := by
  rcases (show ci = 0 ∨ ci = 1 ∨ ci = 2 ∨ ci = 3 ∨ ci = 4 by omega) with rfl | rfl | rfl | rfl | rfl <;> rfl
theorem cl_ws : ∀ ci, ci < 5 → ∀ w ∈ u_ws (clM ci).1 (clM ci).2.1 (clM ci).2.2, w ∈ lw_tbl.filter goodWord := by
  intro ci h
  rcases (show ci = 0 ∨ ci = 1 ∨ ci = 2 ∨ ci = 3 ∨ ci = 4 by omega) with rfl | rfl | rfl | rfl | rfl <;> decide +kernel
def tyN (ci : Nat) : Nat → FieldType := [tyX0, tyX1, tyX2, tyX3, tyX4].getD ci (fun _ => .int)
theorem cl_ty : ∀ ci, ci < 5 → ∀ k, k < (clM ci).2.2 → parseFieldDescriptor ((clM ci).2.1 k).2.2.1 = some (tyN ci k) := by
  intro ci h
  rcases (show ci = 0 ∨ ci = 1 ∨ ci = 2 ∨ ci = 3 ∨ ci = 4 by omega) with rfl | rfl | rfl | rfl | rfl <;> first | exact tyX0_ok | exact tyX1_ok | exact tyX2_ok | exact tyX3_ok | exact tyX4_ok
theorem cl_nm : ∀ ci, ci < 5 → ∀ a, a < (clM ci).2.2 → ∀ b, b < (clM ci).2.2 → a ≠ b → ((clM ci).2.1 a).2.1 ≠ ((clM ci).2.1 b).2.1 := by
  intro ci h
  rcases (show ci = 0 ∨ ci = 1 ∨ ci = 2 ∨ ci = 3 ∨ ci = 4 by omega) with rfl | rfl | rfl | rfl | rfl <;> first | exact nmX0 | exact nmX1 | exact nmX2 | exact nmX3 | exact nmX4
theorem cl_kind : ∀ ci, ci < 5 → ∀ k, k < (clM ci).2.2 → (fkN ci k = 0 → tyN ci k = .int) ∧ (fkN ci k = 2 → tyN ci k = .char) ∧ (fkN ci k = 1 → (∃ C, tyN ci k = .object C) ∨ ∃ t, tyN ci k = .array t) ∧ fkN ci k ≤ 2 := by
  intro ci h k hk
  have hb : (clM ci).2.2 ≤ 11 := by
    rcases (show ci = 0 ∨ ci = 1 ∨ ci = 2 ∨ ci = 3 ∨ ci = 4 by omega) with rfl | rfl | rfl | rfl | rfl <;> decide
  have hk' : k < 11 := Nat.lt_of_lt_of_le hk hb
  rcases (show ci = 0 ∨ ci = 1 ∨ ci = 2 ∨ ci = 3 ∨ ci = 4 by omega) with rfl | rfl | rfl | rfl | rfl <;>
    rcases (show k = 0 ∨ k = 1 ∨ k = 2 ∨ k = 3 ∨ k = 4 ∨ k = 5 ∨ k = 6 ∨ k = 7 ∨ k = 8 ∨ k = 9 ∨ k = 10 by omega) with rfl | rfl | rfl | rfl | rfl | rfl | rfl | rfl | rfl | rfl | rfl <;>
    first
    | exact ⟨fun _ => rfl, fun h => absurd h (by decide), fun h => absurd h (by decide), by decide⟩
    | exact ⟨fun h => absurd h (by decide), fun _ => rfl, fun h => absurd h (by decide), by decide⟩
    | exact ⟨fun h => absurd h (by decide), fun h => absurd h (by decide), fun _ => Or.inl ⟨_, rfl⟩, by decide⟩
    | exact ⟨fun h => absurd h (by decide), fun h => absurd h (by decide), fun _ => Or.inr ⟨_, rfl⟩, by decide⟩
    | exact absurd hk (by decide)
theorem Ru_get {n k : Nat} {f : Nat → Value} (h : k < n) : ((List.range n).map f)[k]? = some (f k) := by
  rw [List.getElem?_map, List.getElem?_range h]; rfl
theorem Ru_set {n k : Nat} {f g : Nat → Value} (_h : k < n) (hg : ∀ j, j ≠ k → g j = f j) : ((List.range n).map f).set k (g k) = (List.range n).map g := by
  refine List.ext_getElem? fun i => ?_
  by_cases e : k = i
  · subst e
    rw [List.getElem?_set_self (by simpa using _h), Ru_get _h]
  · rw [List.getElem?_set_ne e, List.getElem?_map, List.getElem?_map]
    by_cases hi : i < n
    · rw [List.getElem?_range hi]; show some (f i) = some (g i); rw [hg i (fun z => e z.symm)]
    · rw [List.getElem?_eq_none (by simpa using hi)]; rfl
theorem ty_at (c : Nat → ClassId) : (tysM c)[0]? = some (c 2, .int) ∧ (tysM c)[1]? = some (c 3, .boolean) ∧ (tysM c)[2]? = some (c 4, .char) ∧ (tysM c)[3]? = some (c 6, .object RX2) := ⟨rfl, rfl, rfl, rfl⟩
theorem upd_wr {σ : Mem} {v j : Nat} {x : Int32} : upd (rdM σ v) j x = rdM (wrM σ v j x) v := by
  funext i
  show (if i = j then x else rdM σ v i) = if v = v ∧ i = j then x else rdM σ v i
  by_cases e : i = j <;> simp [e]
theorem lg_cmp3 {x y : Int32} : True := trivial
