/-! What the small machine's memory is in the heap. -/
def rfM (ad : Nat → Nat) (v : Nat) : Option Nat := if v = 0 then none else some (ad v)
def vaM (ad : Nat → Nat) : Value → Value
  | .ref v => va_rf (rfM ad v)
  | w => w
def tysM (c : Nat → ClassId) : List (ClassId × FieldType) := [(c 2, .int), (c 3, .boolean), (c 4, .char), (c 6, .object RX2)]
def fkN (ci k : Nat) : Nat := ([[0, 0, 1, 1, 1], [0, 1, 1, 1, 1], [0, 1, 1, 1, 1, 1, 1, 1, 1, 1], [1, 0, 0, 2, 1], [1, 1, 1, 0, 1, 1, 1, 1]].getD ci []).getD k 0
def clM (ci : Nat) : vw_C := vwCl.getD ci ("", fun _ => ("", "", "", false), 0)
def ceK (c : Nat → ClassId) (ad : Nat → Nat) (r : Nat → Int32) (pt : Nat → Nat) (κ n : Nat) : va_E :=
  bif Nat.beq κ 1 then .inr (n, (List.range (clM n).2.2).map fun k => bif Nat.beq (fkN n k) 1 then vaM ad (.ref (pt k)) else .int (r k))
  else bif Nat.beq κ 6 then .inl (c 6, n, .inr (.inr (.inr (.inr fun j => rfM ad (pt j)))))
  else .inl (c κ, n, .inl r)
def ceM (c : Nat → ClassId) (ad : Nat → Nat) (σ : Mem) (v : Nat) : va_E := ceK c ad (rdM σ v) (prM σ v) (tkM σ v).1 (tkM σ v).2
def csM (c : Nat → ClassId) (ad : Nat → Nat) (σ : Mem) : va_W := (List.range (nxM σ - 8)).map fun i => (ad (i + 8), ceM c ad σ (i + 8))
/-- what is fixed in a run: the array classes, the classes' ids and slots, where new cells begin, the static rows' lengths and values, where they lie -/
abbrev GlM : Type := (Nat → ClassId) × va_G × Nat × (Nat → Nat) × (Nat → Nat → Int32) × (Nat → Nat)
abbrev gC (G : GlM) : Nat → ClassId := G.1
abbrev gD (G : GlM) : va_G := G.2.1
abbrev gB (G : GlM) : Nat := G.2.2.1
abbrev gN (G : GlM) : Nat → Nat := G.2.2.2.1
abbrev gM (G : GlM) : Nat → Nat → Int32 := G.2.2.2.2.1
abbrev gA (G : GlM) : Nat → Nat := G.2.2.2.2.2
abbrev gU (G : GlM) : Nat → Prop := fun q => gB G ≤ q
def okT (G : GlM) (σ : Mem) : Prop := 8 ≤ nxM σ ∧ (∀ v, nxM σ ≤ v → (tkM σ v).1 = 0) ∧ tkM σ 0 = (0, 0) ∧ (∀ v j, prM σ v j < nxM σ) ∧ ∀ v, 1 ≤ v → v < 8 → tkM σ v = (2, gN G v) ∧ ∀ j, rdM σ v j = gM G v j
def RpM (G : GlM) (ad : Nat → Nat) (σ : Mem) (H : Heap) : Prop := va_P (gD G) vwCl (csM (gC G) ad σ) H ∧ va_D (gU G) (csM (gC G) ad σ) ∧ okT G σ ∧ ∀ v, 1 ≤ v → v < 8 → ad v = gA G v
def wkM : Cond → Bool
  | .fieldLinkNest .. | .methodLinkNest .. | .declares _ | .castable .. => true
  | _ => false
def EvG (G : GlM) (s : State) : Prop :=
  (∀ w ∈ lw_tbl, wkM w = true → va_Nw w s) ∧ va_K (gD G) vwCl (tysM (gC G)) s ∧
  (∀ v, 1 ≤ v → v < 8 → va_T .int (gA G v) (gN G v) (fun j => .int (gM G v j)) (gU G) s s.heap) ∧
  gB G ≤ s.heap.size ∧ va_AO RX2 s
theorem wk_warm {w : Cond} {s U : State} (hw : wkM w = true) (hW : s.WarmedH U.vm) (h : va_Nw w s) : va_Nw w U := by
  cases w <;> first | exact va_Nw.warmF hW h | exact va_Nw.warmM hW h | exact va_Nw.warmD hW h | exact va_Nw.warmC hW h | cases hw
theorem Ev_next {G : GlM} {s U : State} (h : EvG G s) (hW : s.WarmedH U.vm) (hz : s.heap.size ≤ U.heap.size) (hk : ∀ q : Nat, q < s.heap.size → ¬ gU G q → U.heap[q]? = s.heap[q]?) : EvG G U := by
  obtain ⟨h1, h2, h4, h9, h10⟩ := h
  exact ⟨fun w hw hk => wk_warm hk hW (h1 w hw hk), h2.moved hW.alike, fun v a b => ((h4 v a b).moved hW.alike).kept hk, Nat.le_trans h9 hz, h10.moved hW.alike⟩
theorem Ev_same {G : GlM} {s U : State} (h : EvG G s) (hv : U.vm = s.vm) (hh : U.heap = s.heap) : EvG G U :=
  Ev_next h (by rw [hv]; exact State.WarmedH.refl s) (by rw [hh]; exact Nat.le_refl _) (fun q _ _ => by rw [hh])
theorem cs_get (c : Nat → ClassId) (ad : Nat → Nat) (σ : Mem) (i : Nat) : (csM c ad σ)[i]? = if i < nxM σ - 8 then some (ad (i + 8), ceM c ad σ (i + 8)) else none := by
  unfold csM
  rw [List.getElem?_map]
  by_cases h : i < nxM σ - 8
  · rw [if_pos h, List.getElem?_range h]; rfl
  · rw [if_neg h, List.getElem?_eq_none (by rw [List.length_range]; omega)]; rfl
theorem cs_at {c : Nat → ClassId} {ad : Nat → Nat} {σ : Mem} {v : Nat} (h1 : 8 ≤ v) (h2 : v < nxM σ) : (csM c ad σ)[v - 8]? = some (ad v, ceM c ad σ v) := by
  rw [cs_get, if_pos (by omega), show v - 8 + 8 = v by omega]
theorem cs_len (c : Nat → ClassId) (ad : Nat → Nat) (σ : Mem) : (csM c ad σ).length = nxM σ - 8 := by unfold csM; rw [List.length_map, List.length_range]
theorem ce_congr {c : Nat → ClassId} {ad ad' : Nat → Nat} {σ σ' : Mem} {v : Nat} (ht : tkM σ' v = tkM σ v) (hr : ∀ j, rdM σ' v j = rdM σ v j) (hp : ∀ j, prM σ' v j = prM σ v j) (ha : ∀ j, ad' (prM σ v j) = ad (prM σ v j)) : ceM c ad' σ' v = ceM c ad σ v := by
  have h1 : rdM σ' v = rdM σ v := funext hr
  have h2 : prM σ' v = prM σ v := funext hp
  have h3 : ∀ j, rfM ad' (prM σ v j) = rfM ad (prM σ v j) := fun j => by unfold rfM; rw [ha j]
  have h4 : ∀ j, vaM ad' (.ref (prM σ v j)) = vaM ad (.ref (prM σ v j)) := fun j => by show va_rf _ = va_rf _; rw [h3 j]
  unfold ceM ceK
  rw [ht, h1, h2]
  simp only [h3, h4]
/-- one object has changed -/
theorem cs_set {c : Nat → ClassId} {ad : Nat → Nat} {σ σ' : Mem} {v : Nat} (h1 : 8 ≤ v) (h2 : v < nxM σ) (hn : nxM σ' = nxM σ) (ht : ∀ u, tkM σ' u = tkM σ u) (hr : ∀ u j, u ≠ v → rdM σ' u j = rdM σ u j) (hp : ∀ u j, u ≠ v → prM σ' u j = prM σ u j) :
    csM c ad σ' = (csM c ad σ).set (v - 8) (ad v, ceM c ad σ' v) := by
  refine List.ext_getElem? fun i => ?_
  by_cases e : i = v - 8
  · subst e
    rw [List.getElem?_set_self (by rw [cs_len]; omega), cs_at h1 (by rw [hn]; exact h2)]
  · rw [List.getElem?_set_ne (Ne.symm e), cs_get, cs_get, hn]
    by_cases hi : i < nxM σ - 8
    · have hne : i + 8 ≠ v := by omega
      rw [if_pos hi, if_pos hi, ce_congr (ht _) (fun j => hr _ j hne) (fun j => hp _ j hne) (fun _ => rfl)]
    · rw [if_neg hi, if_neg hi]
theorem cs_new {c : Nat → ClassId} {ad ad' : Nat → Nat} {σ σ' : Mem} (h8 : 8 ≤ nxM σ) (hn : nxM σ' = nxM σ + 1) (ht : ∀ u, u < nxM σ → tkM σ' u = tkM σ u) (hr : ∀ u j, u < nxM σ → rdM σ' u j = rdM σ u j) (hp : ∀ u j, u < nxM σ → prM σ' u j = prM σ u j) (hw : ∀ u j, prM σ u j < nxM σ) (ha : ∀ u, u < nxM σ → ad' u = ad u) :
    csM c ad' σ' = csM c ad σ ++ [(ad' (nxM σ), ceM c ad' σ' (nxM σ))] := by
  refine List.ext_getElem? fun i => ?_
  by_cases e : i < nxM σ - 8
  · rw [List.getElem?_append_left (by rw [cs_len]; exact e), cs_get, cs_get, if_pos e, if_pos (by omega), ha _ (by omega), ce_congr (ht _ (by omega)) (fun j => hr _ j (by omega)) (fun j => hp _ j (by omega)) (fun j => ha _ (hw _ j))]
  · rw [List.getElem?_append_right (by rw [cs_len]; omega), cs_len, cs_get]
    by_cases e2 : i = nxM σ - 8
    · subst e2
      rw [if_pos (by omega), Nat.sub_self, show nxM σ - 8 + 8 = nxM σ by omega]; rfl
    · rw [if_neg (by omega), List.getElem?_eq_none (by simp; omega)]
