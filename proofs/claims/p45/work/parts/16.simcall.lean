/-! A callee's contract out of its run, and a call. -/
def wsC (k : Nat) : List Cond := cwM k :: lw_tbl.filter goodWord
def rmC (k : Nat) : Room := { frames := nfM k, cells := ncM k, slots := nsM k, locals := nlM k }
def PcC (G : GlM) (ad : Nat → Nat) (as : List Value) (σ : Mem) : Array Value → State → Prop := va_Pc (as.map (vaM ad)) (fun U => EvG G U ∧ RpM G ad σ U.heap)
def EnC (G : GlM) (ad : Nat → Nat) (σ σ' : Mem) (ad' : Nat → Nat) (st t : State) : Prop := (∀ u, u < nxM σ → ad' u = ad u) ∧ nxM σ ≤ nxM σ' ∧ RpM G ad' σ' t.heap ∧ va_F (gU G) st t
def QcC (G : GlM) (ad : Nat → Nat) (σ : Mem) (o : OutM) : Array Value → State → Outcome → State → Prop := fun _ st oc t =>
  match o with
  | (.inl v, σ') => ∃ ad', oc = .returned (v.map (vaM ad')) ∧ EnC G ad σ σ' ad' st t ∧ voM (nxM σ') v
  | (.inr _, _) => False
theorem Pc_blind {G : GlM} {ad : Nat → Nat} {as : List Value} {σ : Mem} : FrameBlind (PcC G ad as σ) := fun a U g mk h => ⟨h.1, Ev_same h.2.1 rfl rfl, h.2.2⟩
theorem ow_in {k : Nat} (h : MtP k) : ∀ c, ocM k = c → c < 6 → Cond.initialized (owM k) ∈ lw_tbl ∧ plainName (owM k) = true ∧ owM k ≠ "java/lang/invoke/MethodHandle" ∧ owM k ≠ "java/lang/invoke/VarHandle" := by
  intro c hc h7
  rw [h.1, hc]
  exact ⟨rc_init c h7, rc_plain c h7⟩
theorem lv_args1 (f : Nat → Value) : True := trivial
theorem lv_args_at (ad : Nat → Nat) : ∀ (as : List Value) (j : Nat), (∀ v ∈ as, isOne v = true) → (∀ (i : Nat) (v : Value), as[i]? = some v → (j + i, vaM ad v) ∈ lv_args j (as.map (vaM ad))) ∧ (∀ q ∈ lv_args j (as.map (vaM ad)), q.2.category = 1)
  | [], j, _ => ⟨fun i v h => by simp at h, fun q h => by cases h⟩
  | a :: as, j, h => by
    obtain ⟨h1, h2⟩ := List.forall_mem_cons.mp h
    have hc : (vaM ad a).category = 1 := va_cat1 h1
    have e : lv_args j ((a :: as).map (vaM ad)) = (j, vaM ad a) :: lv_args (j + 1) (as.map (vaM ad)) := by
      show (j, vaM ad a) :: lv_args (if (vaM ad a).category = 2 then j + 2 else j + 1) _ = _
      rw [hc]; rfl
    rw [e]
    obtain ⟨i1, i2⟩ := lv_args_at ad as (j + 1) h2
    refine ⟨fun i v hv => ?_, fun q hq => ?_⟩
    · cases i with
      | zero => cases hv; exact List.mem_cons_self
      | succ i =>
        have := i1 i v hv
        rw [show j + 1 + i = j + (i + 1) by omega] at this
        exact List.mem_cons_of_mem _ this
    · rcases List.mem_cons.mp hq with rfl | hq
      · exact hc
      · exact i2 q hq
theorem lg_len (ad : Nat → Nat) : ∀ (as : List Value), (∀ v ∈ as, isOne v = true) → (lg_sl (as.map (vaM ad))).length = as.length
  | [], _ => rfl
  | a :: as, h => by
    obtain ⟨h1, h2⟩ := List.forall_mem_cons.mp h
    have hc : (vaM ad a).category = 1 := va_cat1 h1
    show (List.flatMap _ (vaM ad a :: as.map (vaM ad))).length = _
    rw [List.flatMap_cons, List.length_append, if_neg (by rw [hc]; decide)]
    have := lg_len ad as h2
    unfold lg_sl at this
    rw [this, List.length_cons]
    simp; omega
theorem en_get {k : Nat} {as : List Value} {i : Nat} {v : Value} (h : (enM k as).2.1[i]? = some (some v)) : as[i]? = some v := by
  show as[i]? = some v
  have h : (as.map some ++ List.replicate (mxM k - as.length) none)[i]? = some (some v) := h
  by_cases hi : i < as.length
  · rw [List.getElem?_append_left (by simpa using hi), List.getElem?_map] at h
    cases e : as[i]? with
    | none => rw [e] at h; cases h
    | some w => rw [e] at h; exact congrArg _ (Option.some.inj (Option.some.inj h))
  · rw [List.getElem?_append_right (by simpa using hi)] at h
    have := List.mem_of_getElem? h
    rw [List.mem_replicate] at this
    cases this.2
theorem wk_use {w : Cond} {s : State} {args : Array Value} (hw : wkM w = true) (h : va_Nw w s) : w.before args s = true := by
  refine va_Nw.use ?_ h
  cases w <;> first | rfl | cases hw
set_option maxHeartbeats 8000000 in
/-- a method's run is a contract -/
theorem Met_of {G : GlM} {l : Launch} {k : Nat} {ad : Nat → Nat} {as : List Value} {σ σ' : Mem} {v : Option Value} (hmt : MtP k) (hoc : ocM k < 6) (hw : WsM G l k (enM k as) σ (.inl v, σ')) (hlen : as.length ≤ mxM k) (has : ∀ v ∈ as, isOne v = true) (hav : ∀ v ∈ as, vkM (nxM σ) v = true) :
    Met l (yM k) (wsC k) (rmC k) (PcC G ad as σ) (QcC G ad σ (.inl v, σ')) (ncM k) (nsM k) (gU G) := by
  have hpn : plainName (yM k).cls = true := (ow_in hmt _ rfl hoc).2.1
  refine Met.ofW (cc := byM k) (maxL := mxM k) (ret := rtM k) (ws' := lw_tbl.filter goodWord) hpn rfl ?_
  intro p e s m args below meth c s₁ B hml hv
  obtain ⟨rfl, hE, hR⟩ := hv
  have hts := atoms_spec (ws := wsC k) B.pre
  have hgw : ∀ w ∈ lw_tbl, goodWord w = true → w.before ((as.map (vaM ad)).toArray) s = true := fun w h1 h2 => hts w (List.mem_cons_of_mem _ (List.mem_filter.mpr ⟨h1, h2⟩))
  have hA : AcM G l k p (headSpec (wsC k) (rmC k)).room s m ((as.map (vaM ad)).toArray) meth c := ⟨⟨B.exec, B.bytes, hml, B.returns, B.notSynchronized, (name_of_methodNamed B.named B.method).1, findClass_of_methodNamed B.named⟩, hgw, hE, Nat.le_refl _, Nat.le_refl _, Nat.le_refl _, Nat.le_refl _⟩
  have hlv := lv_entry (as.map (vaM ad)) (n := mxM k) (by rw [lg_len ad as has]; exact hlen)
  rw [lg_entry_eq]
  obtain ⟨a1, a2⟩ := lv_args_at ad as 0 has
  refine hw p e _ s m _ below meth c ad s.heap [] _ _ [] hA hR va_S.rf ⟨_, hlv, fun q hq => Or.inl (a2 q hq), fun i v hv => ?_⟩ ⟨rfl, fun v h => by cases h⟩ ?_
  · have h1 := en_get hv
    have h2 := a1 i v h1
    rw [Nat.zero_add] at h2
    exact ⟨h2, hav v (List.mem_of_getElem? h1)⟩
  · intro ad' H' locs' kc ks pc ls h1 h2 h3 h4 h5 h6 h7 h8
    refine W.widen h5 h6 ?_
    have post : ∀ (t : State), t.heap = H' → QcC G ad σ ((.inl v, σ') : OutM) ((as.map (vaM ad)).toArray) s (.returned (v.map (vaM ad'))) t := fun t ht => ⟨ad', rfl, ⟨h1, h2, by rw [ht]; exact h3, h4.F ht⟩, h8⟩
    cases v with
    | none => exact W.vret B.exec B.bytes (B.returns.trans h7.2) (fun t ht _ => post t ht) h4.2.2 h7.1 (hlocks := B.notSynchronized)
    | some v =>
      cases v <;> first | exact absurd h7 (fun z => z) | skip
      case int x =>
        rcases h7.2 with e | ⟨e, e2⟩
        · exact W.iret B.exec B.bytes (B.returns.trans e) (fun t ht _ => post t ht) h4.2.2 h7.1 (hlocks := B.notSynchronized)
        · exact W.zret B.exec B.bytes (B.returns.trans e) (by rcases e2 with rfl | rfl <;> rfl) (fun t ht _ => post t ht) h4.2.2 h7.1 (hlocks := B.notSynchronized)
      case long x => exact W.lret B.exec B.bytes (B.returns.trans h7.2) (fun t ht _ => post t ht) h4.2.2 h7.1 (hlocks := B.notSynchronized)
theorem va_keepS {st₀ t T' : State} {H : Heap} {s : State} {A : Nat → Prop} {locs L : List Loc} (h0 : st₀.heap = H) (e1 : T'.heap = t.heap) (hS : va_S A s.heap H locs) (hL : ∀ q ∈ L, A q.base) (hF : va_F A st₀ t) : va_S A s.heap T'.heap (locs ++ L) := by
  obtain ⟨hz, hk⟩ := hF
  rw [h0] at hz hk
  refine ⟨Nat.le_trans hS.1 (by rw [e1]; exact hz), fun q h1 h2 => by rw [e1, hk q (Nat.lt_of_lt_of_le h1 hS.1) h2]; exact hS.2.1 q h1 h2, fun q hq => ?_⟩
  rcases List.mem_append.mp hq with h | h
  · exact hS.2.2 q h
  · exact hL q h
/-- behind a call: what came back -/
theorem call_end {G : GlM} {l : Launch} {p : Program} {e : Env} {R : Room} {s : State} {m : MethodId} {args : Array Value} {below : List Frame} {meth : Method} {c : Code} {H : Heap} {locs : List Loc} {cells slots mc ms pc : Nat} {ls : Array Slot} {st0 rest : List Value} {Q : State → Prop} {a : Array Value} {ad : Nat → Nat} {σ σ' : Mem} {v : Option Value}
    (hr : va_Run p l e R s m args below meth c H locs cells slots mc ms (F0 m pc ls st0) rest (QcC G ad σ (.inl v, σ') a) (gU G)) (hS : va_S (gU G) s.heap H locs)
    (kv : ∀ (ad' : Nat → Nat) (H1 : Heap) (locs1 : List Loc), (∀ u, u < nxM σ → ad' u = ad u) → nxM σ ≤ nxM σ' → RpM G ad' σ' H1 → voM (nxM σ') v → va_S (gU G) s.heap H1 locs1 → W p l e R s m args below meth c H1 locs1 (cells + mc) (slots + ms) Q (F0 m (pc + 3) ls ((v.map (vaM ad')).toList ++ rest))) :
    W p l e R s m args below meth c H locs cells slots Q (F0 m pc ls st0) := by
  intro T hT X
  obtain ⟨v', st₀, t, T', L, h0, X', hL, e1, e2, hq, st⟩ := hr T hT X
  obtain ⟨ad', hv, ⟨g1, g2, g3, g4⟩, g5⟩ := hq
  cases hv
  obtain ⟨t2, a1, b1⟩ := kv ad' T'.heap (locs ++ L) g1 g2 (by rw [e1]; exact g3) g5 (va_keepS h0 e1 hS hL g4) T' rfl X'
  exact ⟨t2, st t2 a1, b1⟩
theorem take_rc {n : Nat} {sa : List Value} {b : Nat} {t : List Value} (hn : 1 ≤ n) (h : sa.drop (n - 1) = .ref b :: t) : t = sa.drop n ∧ (sa.take n).reverse = .ref b :: (sa.take (n - 1)).reverse ∧ sa = sa.take (n - 1) ++ .ref b :: sa.drop n := by
  have h1 : t = sa.drop n := by
    have : sa.drop n = (sa.drop (n - 1)).drop 1 := by rw [List.drop_drop]; congr 1; omega
    rw [this, h]; rfl
  have h2 : sa = sa.take (n - 1) ++ .ref b :: sa.drop n := by
    rw [← h1, ← h]; exact (List.take_append_drop _ _).symm
  refine ⟨h1, ?_, h2⟩
  have hl : n - 1 < sa.length := by
    rcases Nat.lt_or_ge (n - 1) sa.length with q | q
    · exact q
    · rw [List.drop_eq_nil_of_le q] at h; cases h
  have h3 : sa.take n = sa.take (n - 1) ++ [.ref b] := by
    have h4 : sa[n - 1]? = some (.ref b) := by
      have : (sa.drop (n - 1))[0]? = some (.ref b) := by rw [h]; rfl
      rw [List.getElem?_drop] at this
      simpa using this
    have h5 : n = (n - 1) + 1 := by omega
    rw [h5, List.take_add_one, h4]; rfl
  rw [h3, List.reverse_append]; rfl
theorem in_rc {n : Nat} {f : Nat → Option OutM} {st : List Value} {o : OutM} (h : rcM_ n f st = some o) : ∃ b t, st.drop (n - 1) = .ref b :: t ∧ f b = some o := by
  unfold rcM_ at h
  split at h
  · next b t e => exact ⟨b, t, e, h⟩
  · cases h
theorem gw_cw {k : Nat} (h : cwM k ∈ lw_tbl) : cwM k ∈ lw_tbl.filter goodWord := List.mem_filter.mpr ⟨h, rfl⟩
theorem wsC_good {k : Nat} (h : cwM k ∈ lw_tbl) : ∀ w ∈ wsC k, w ∈ lw_tbl.filter goodWord := by
  intro w hw
  rcases List.mem_cons.mp hw with rfl | hw
  · exact gw_cw h
  · exact hw
/-- the words of a callee hold at any later state -/
theorem wsC_pay {k : Nat} {s : State} {args : Array Value} (h : cwM k ∈ lw_tbl) (hts : ∀ w ∈ lw_tbl, goodWord w = true → w.before args s = true) : ∀ w ∈ wsC k, ∀ (a' : Array Value) (U : State), s.WarmedH U.vm → w.before a' U = true := by
  intro w hw a' U hW
  obtain ⟨h1, h2⟩ := List.mem_filter.mp (wsC_good h w hw)
  exact word_at hW (good_of_word h2) (hts w h1 h2)
