/-- behind a call: what came back, or the exception -/
theorem call_end {G : GlM} {l : Launch} {p : Program} {e : Env} {R : Room} {s : State} {m : MethodId} {args : Array Value} {below : List Frame} {meth : Method} {c : Code} {H : Heap} {locs : List Loc} {cells slots mc ms pc : Nat} {ls : Array Slot} {st0 rest : List Value} {Q : State → Prop} {a : Array Value} {ad : Nat → Nat} {σ : Mem} {o' : OutM}
    (hr : vx_Run p l e R s m args below meth c H locs cells slots mc ms (F0 m pc ls st0) rest (QcC G ad σ o' a) (XcC G ad σ o') (gU G)) (hS : va_S (gU G) s.heap H locs)
    (kv : ∀ (v : Option Value) (σ' : Mem) (ad' : Nat → Nat) (H1 : Heap) (locs1 : List Loc), o' = (.inl v, σ') → (∀ u, u < nxM σ → ad' u = ad u) → nxM σ ≤ nxM σ' → RpM G ad' σ' H1 → voM (nxM σ') v → va_S (gU G) s.heap H1 locs1 → W p l e R s m args below meth c H1 locs1 (cells + mc) (slots + ms) Q (F0 m (pc + 3) ls ((v.map (vaM ad')).toList ++ rest)))
    (kx : ∀ (E : Nat) (σ' : Mem) (ad' : Nat → Nat) (H1 : Heap) (locs1 : List Loc) (q : Addr) (ce : Cell), o' = (.inr E, σ') → (∀ u, u < nxM σ → ad' u = ad u) → nxM σ ≤ nxM σ' → RpM G ad' σ' H1 → va_S (gU G) s.heap H1 locs1 → H1[q]? = some ce → ce.vm = .none → s.vm.findClass (exM E) = some ce.cls → vx_W p l e R s m args below meth c H1 locs1 (cells + mc) (slots + ms) Q (F0 m pc ls rest) q) :
    W p l e R s m args below meth c H locs cells slots Q (F0 m pc ls st0) := by
  intro T hT X
  obtain ⟨r, σ'⟩ := o'
  rcases hr T hT X with ⟨v, st₀, t, T', L, h0, X', hL, e1, e2, hq, st⟩ | ⟨q, st₀, t, T', L, E, ce, h0, X', hL, e1, e2, hq, hce, hcv, hcl, st⟩
  · cases r with
    | inr E => exact absurd hq (fun z => z)
    | inl v' =>
      obtain ⟨ad', hv, ⟨g1, g2, g3, g4⟩, g5⟩ := hq
      cases hv
      obtain ⟨k1, k2, k3⟩ := vx_keep h0 e1 hS (fun _ _ h => h) (fun _ h => h) hL g4
      obtain ⟨t2, a1, b1⟩ := kv v' σ' ad' T'.heap (locs ++ L) rfl g1 g2 (by rw [e1]; exact g3) g5 k3 T' rfl X'
      exact ⟨t2, st t2 a1, b1⟩
  · cases r with
    | inl v' => exact absurd hq (fun z => z)
    | inr E' =>
      obtain ⟨hE, ad', g1, g2, g3, g4⟩ := hq
      subst hE
      obtain ⟨k1, k2, k3⟩ := vx_keep h0 e1 hS (fun _ _ h => h) (fun _ h => h) hL g4
      obtain ⟨t2, a1, b1⟩ := kx E' σ' ad' T'.heap (locs ++ L) q ce rfl g1 g2 (by rw [e1]; exact g3) k3 (by rw [e1]; exact hce) hcv hcl T' rfl X'
      exact ⟨t2, st.trans a1, b1⟩
theorem Met_no {l : Launch} {y : MethodName} {ws : List Cond} {rm : Room} {Pc : Array Value → State → Prop} {Qc : Array Value → State → Outcome → State → Prop} {XC : String → State → State → Prop} {mc ms : Nat} {free : Addr → Prop} (h : vx_Met l y ws rm Pc Qc XC mc ms free) (hx : ∀ E st t, ¬ XC E st t) : Met l y ws rm Pc Qc mc ms free := by
  intro p e ha hc hk s m args below hf happ hP hK
  obtain ⟨n, o, h1, h2, h3, h4⟩ := h p e ha hc hk s m args below hf happ hP hK
  refine ⟨n, o, h1, h2, h3, ?_⟩
  rcases h4 with h4 | ⟨q, -, E, ce, L, hq, -⟩
  · exact h4
  · exact absurd hq (hx E _ _)
theorem Run_of {p : Program} {l : Launch} {e : Env} {R : Room} {s : State} {m : MethodId} {args : Array Value} {below : List Frame} {meth : Method} {c : Code} {H : Heap} {locs : List Loc} {cells slots mc ms : Nat} {g : JFrame} {rest : List Value} {Qa : State → Outcome → State → Prop} {XC : String → State → State → Prop} {free : Addr → Prop}
    (h : va_Run p l e R s m args below meth c H locs cells slots mc ms g rest Qa free) : vx_Run p l e R s m args below meth c H locs cells slots mc ms g rest Qa XC free := fun T hT X => Or.inl (h T hT X)
theorem take_rc {n : Nat} {sa : List Value} {b : Nat} {t : List Value} (hn : 1 ≤ n) (h : sa.drop (n - 1) = .ref b :: t) : t = sa.drop n ∧ (sa.take n).reverse = .ref b :: (sa.take (n - 1)).reverse ∧ sa = sa.take (n - 1) ++ .ref b :: sa.drop n := by
  have h1 : t = sa.drop n := by
    have : sa.drop n = (sa.drop (n - 1)).drop 1 := by rw [List.drop_drop]; congr 1; omega
    rw [this, h]; rfl
  have h2 : sa = sa.take (n - 1) ++ .ref b :: sa.drop n := by
    rw [← h1, ← h]; exact (List.take_append_drop _ _).symm
  refine ⟨h1, ?_, h2⟩
  have hl : n - 1 < sa.length := by
    rcases Nat.lt_or_ge (n - 1) sa.length with q | q
    · exact q
    · rw [List.drop_eq_nil_of_le q] at h; cases h
  have h3 : sa.take n = sa.take (n - 1) ++ [.ref b] := by
    have h4 : sa[n - 1]? = some (.ref b) := by
      have : (sa.drop (n - 1))[0]? = some (.ref b) := by rw [h]; rfl
      rw [List.getElem?_drop] at this
      simpa using this
    have h5 : n = (n - 1) + 1 := by omega
    rw [h5, List.take_add_one, h4]; rfl
  rw [h3, List.reverse_append]; rfl
theorem in_rc {n : Nat} {f : Nat → Option OutM} {st : List Value} {o : OutM} (h : rcM_ n f st = some o) : ∃ b t, st.drop (n - 1) = .ref b :: t ∧ f b = some o := by
  unfold rcM_ at h
  split at h
  · next b t e => exact ⟨b, t, e, h⟩
  · cases h
theorem gw_cw {k : Nat} (h : cwM k ∈ lw_tbl) : cwM k ∈ lw_tbl.filter goodWord := by
  refine List.mem_filter.mpr ⟨h, ?_⟩
  unfold cwM
  cases (hsM k).isEmpty <;> rfl
theorem wsC_good {k : Nat} (h : cwM k ∈ lw_tbl) : ∀ w ∈ wsC k, w ∈ lw_tbl.filter goodWord := by
  intro w hw
  rcases List.mem_cons.mp hw with rfl | hw
  · exact gw_cw h
  · exact hw
/-- the words of a callee hold at any later state -/
theorem wsC_pay {k : Nat} {s : State} {args : Array Value} (h : cwM k ∈ lw_tbl) (hts : ∀ w ∈ lw_tbl, goodWord w = true → w.before args s = true) : ∀ w ∈ wsC k, ∀ (a' : Array Value) (U : State), s.WarmedH U.vm → w.before a' U = true := by
  intro w hw a' U hW
  obtain ⟨h1, h2⟩ := List.mem_filter.mp (wsC_good h w hw)
  exact word_at hW (good_of_word h2) (hts w h1 h2)
theorem hd_find {c : Code} {s : State} {m : MethodId} {args : Array Value} {p : Program} {l : Launch} {e : Env} {R : Room} {below : List Frame} {meth : Method} {H : Heap} {locs : List Loc} {cells slots pc E hp : Nat} {Q : State → Prop} {ls : Array Slot} {rest : List Value} {q : Addr} {ce : Cell}
    (hown : s.vm.findClass RL = some m.cls) (hlk : ∀ x, 1 ≤ x → x < 4 → (Cond.classLink RL (ctM x) (exM x)).before args s = true) (hE1 : 1 ≤ E) (hE2 : E < 4) (hcast : (Cond.castable (exM E) (exM E)).before args s = true) (hNc : ∀ a b, 1 ≤ a → a < 4 → 1 ≤ b → b < 4 → a ≠ b → va_Nc (exM a) (exM b) s)
    (hcell : H[q]? = some ce) (hv : ce.vm = .none) (hcl : s.vm.findClass (exM E) = some ce.cls) (kk : W p l e R s m args below meth c H locs cells slots Q (F0 m hp ls [.ref q])) :
    ∀ (hs pre : List (Nat × Nat × Nat × Nat)), (∀ z ∈ hs, 1 ≤ z.2.2.2 ∧ z.2.2.2 < 4) → c.exceptionTable.toList = tableOf (pre.map fun q => (q.1, q.2.1, q.2.2.1, ctM q.2.2.2)) ++ tableOf (hs.map fun q => (q.1, q.2.1, q.2.2.1, ctM q.2.2.2)) → (∀ z ∈ tableOf (pre.map fun q => (q.1, q.2.1, q.2.2.1, ctM q.2.2.2)), covers z pc = false ∨ (z.catchType ≠ 0 ∧ ∃ nm : String, (Cond.classLink RL z.catchType nm).before args s = true ∧ va_Nc (exM E) nm s)) →
      hdM hs pc E = some hp → vx_W p l e R s m args below meth c H locs cells slots Q (F0 m pc ls rest) q
  | [], _, _, _, _, h => by cases h
  | (a, b, h', x) :: hs, pre, hx, hex, hpass, h => by
    obtain ⟨⟨x1, x2⟩, hx2⟩ := List.forall_mem_cons.mp hx
    dsimp only at x1 x2
    have hct : ctM x ≠ 0 := by rcases (show x = 1 ∨ x = 2 ∨ x = 3 by omega) with rfl | rfl | rfl <;> decide
    unfold hdM at h
    cases e : (Nat.ble a pc && Nat.blt pc b) && Nat.beq x E with
    | true =>
      rw [e, cond_true] at h
      obtain rfl := Option.some.inj h
      simp only [Bool.and_eq_true] at e
      have exE := nb_eq e.2
      subst exE
      refine vx_catch (own := RL) (name := exM x) hown (tableOf (pre.map fun q => (q.1, q.2.1, q.2.2.1, ctM q.2.2.2))) ⟨a, b, h', ctM x⟩ (tableOf (hs.map fun q => (q.1, q.2.1, q.2.2.1, ctM q.2.2.2))) hex hpass ?_ hct (hlk x x1 x2) hcast hcell hv hcl kk
      have e1 := Nat.le_of_ble_eq_true e.1.1
      have e2 : pc < b := by have := e.1.2; unfold Nat.blt at this; exact Nat.le_of_ble_eq_true this
      simp [covers, e1, e2]
    | false =>
      rw [e, cond_false] at h
      refine hd_find hown hlk hE1 hE2 hcast hNc hcell hv hcl kk hs (pre ++ [(a, b, h', x)]) hx2 ?_ ?_ h
      · rw [hex]; simp [tableOf]
      · intro z hz
        have hz2 : z ∈ tableOf (pre.map fun q => (q.1, q.2.1, q.2.2.1, ctM q.2.2.2)) ∨ z = ⟨a, b, h', ctM x⟩ := by
          simpa [tableOf] using hz
        rcases hz2 with hz2 | rfl
        · exact hpass z hz2
        · by_cases hxe : x = E
          · subst hxe
            left
            have e3 : (Nat.ble a pc && Nat.blt pc b) = false := by
              cases e4 : (Nat.ble a pc && Nat.blt pc b) with
              | false => rfl
              | true => rw [e4] at e; simp at e
            cases e5 : covers ⟨a, b, h', ctM x⟩ pc with
            | false => rfl
            | true =>
              simp only [covers, Bool.and_eq_true, decide_eq_true_eq] at e5
              have : (Nat.ble a pc && Nat.blt pc b) = true := by
                rw [Bool.and_eq_true]
                exact ⟨Nat.ble_eq_true_of_le e5.1, by unfold Nat.blt; exact Nat.ble_eq_true_of_le e5.2⟩
              rw [this] at e3; cases e3
          · exact Or.inr ⟨hct, exM x, hlk x x1 x2, hNc E x hE1 hE2 x1 x2 (fun z => hxe z.symm)⟩
