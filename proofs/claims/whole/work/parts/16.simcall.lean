/-! A callee's contract out of its run, and a call. -/
def wsC (k : Nat) : List Cond := cwM k :: lw_tbl.filter goodWord
def rmC (k : Nat) : Room := { frames := nfM k, cells := ncM k, slots := nsM k, locals := nlM k }
def PcC (G : GlM) (ad : Nat → Nat) (as : List Value) (σ : Mem) : Array Value → State → Prop := va_Pc (as.map (vaM ad)) (fun U => EvG G U ∧ RpM G ad σ U.heap)
def EnC (G : GlM) (ad : Nat → Nat) (σ σ' : Mem) (ad' : Nat → Nat) (st t : State) : Prop := (∀ u, u < nxM σ → ad' u = ad u) ∧ nxM σ ≤ nxM σ' ∧ RpM G ad' σ' t.heap ∧ va_F (gU G) st t
def QcC (G : GlM) (ad : Nat → Nat) (σ : Mem) (o : OutM) : Array Value → State → Outcome → State → Prop := fun _ st oc t =>
  match o with
  | (.inl v, σ') => ∃ ad', oc = .returned (v.map (vaM ad')) ∧ EnC G ad σ σ' ad' st t ∧ voM (nxM σ') v
  | (.inr _, _) => False
def XcC (G : GlM) (ad : Nat → Nat) (σ : Mem) (o : OutM) : String → State → State → Prop := fun nm st t =>
  match o with
  | (.inl _, _) => False
  | (.inr E, σ') => nm = exM E ∧ ∃ ad', EnC G ad σ σ' ad' st t
theorem Pc_blind {G : GlM} {ad : Nat → Nat} {as : List Value} {σ : Mem} : FrameBlind (PcC G ad as σ) := fun a U g mk h => ⟨h.1, Ev_same h.2.1 rfl rfl, h.2.2⟩
theorem ow_in {k : Nat} (h : MtP k) : ∀ c, ocM k = c → c < 7 → Cond.initialized (owM k) ∈ lw_tbl ∧ plainName (owM k) = true ∧ owM k ≠ "java/lang/invoke/MethodHandle" ∧ owM k ≠ "java/lang/invoke/VarHandle" := by
  intro c hc h7
  rw [h.1, hc]
  exact ⟨rc_init c h7, rc_plain c h7⟩
theorem lv_args1 (f : Nat → Value) : True := trivial
theorem lv_args_at (ad : Nat → Nat) : ∀ (as : List Value) (j : Nat), (∀ v ∈ as, isOne v = true) → (∀ (i : Nat) (v : Value), as[i]? = some v → (j + i, vaM ad v) ∈ lv_args j (as.map (vaM ad))) ∧ (∀ q ∈ lv_args j (as.map (vaM ad)), q.2.category = 1)
  | [], j, _ => ⟨fun i v h => by simp at h, fun q h => by cases h⟩
  | a :: as, j, h => by
    obtain ⟨h1, h2⟩ := List.forall_mem_cons.mp h
    have hc : (vaM ad a).category = 1 := va_cat1 h1
    have e : lv_args j ((a :: as).map (vaM ad)) = (j, vaM ad a) :: lv_args (j + 1) (as.map (vaM ad)) := by
      show (j, vaM ad a) :: lv_args (if (vaM ad a).category = 2 then j + 2 else j + 1) _ = _
      rw [hc]; rfl
    rw [e]
    obtain ⟨i1, i2⟩ := lv_args_at ad as (j + 1) h2
    refine ⟨fun i v hv => ?_, fun q hq => ?_⟩
    · cases i with
      | zero => cases hv; exact List.mem_cons_self
      | succ i =>
        have := i1 i v hv
        rw [show j + 1 + i = j + (i + 1) by omega] at this
        exact List.mem_cons_of_mem _ this
    · rcases List.mem_cons.mp hq with rfl | hq
      · exact hc
      · exact i2 q hq
theorem lg_len (ad : Nat → Nat) : ∀ (as : List Value), (∀ v ∈ as, isOne v = true) → (lg_sl (as.map (vaM ad))).length = as.length
  | [], _ => rfl
  | a :: as, h => by
    obtain ⟨h1, h2⟩ := List.forall_mem_cons.mp h
    have hc : (vaM ad a).category = 1 := va_cat1 h1
    show (List.flatMap _ (vaM ad a :: as.map (vaM ad))).length = _
    rw [List.flatMap_cons, List.length_append, if_neg (by rw [hc]; decide)]
    have := lg_len ad as h2
    unfold lg_sl at this
    rw [this, List.length_cons]
    simp; omega
theorem en_get {k : Nat} {as : List Value} {i : Nat} {v : Value} (h : (enM k as).2.1[i]? = some (some v)) : as[i]? = some v := by
  show as[i]? = some v
  have h : (as.map some ++ List.replicate (mxM k - as.length) none)[i]? = some (some v) := h
  by_cases hi : i < as.length
  · rw [List.getElem?_append_left (by simpa using hi), List.getElem?_map] at h
    cases e : as[i]? with
    | none => rw [e] at h; cases h
    | some w => rw [e] at h; exact congrArg _ (Option.some.inj (Option.some.inj h))
  · rw [List.getElem?_append_right (by simpa using hi)] at h
    have := List.mem_of_getElem? h
    rw [List.mem_replicate] at this
    cases this.2
theorem ex_wd : ∀ E, 1 ≤ E → E < 4 → (∀ w ∈ vx_atS RX4 ([0, 265, 117, 67].getD E 0) (exM E) ["java/lang/RuntimeException", "java/lang/Exception"], w ∈ lw_tbl ∧ (goodWord w || wkM w) = true) ∧ (∀ w ∈ Cond.classLink RX4 0 "" :: Cond.initialized "" :: vx_atS RX4 ([0, 265, 117, 67].getD E 0) (exM E) ["java/lang/RuntimeException", "java/lang/Exception"], vx_ot w = true) ∧ Cond.initialized (exM E) ∈ lw_tbl ∧ Bundle.fit (exM E) = true ∧ (∀ n ∈ ["java/lang/RuntimeException", "java/lang/Exception"], Bundle.fit n = true) := by
  intro E h1 h2
  rcases (show E = 1 ∨ E = 2 ∨ E = 3 by omega) with rfl | rfl | rfl
  · exact ⟨by decide +kernel, by decide +kernel, by decide +kernel, by decide +kernel, by decide +kernel⟩
  · exact ⟨by decide +kernel, by decide +kernel, by decide +kernel, by decide +kernel, by decide +kernel⟩
  · exact ⟨by decide +kernel, by decide +kernel, by decide +kernel, by decide +kernel, by decide +kernel⟩
theorem wk_use {w : Cond} {s : State} {args : Array Value} (hw : wkM w = true) (h : va_Nw w s) : w.before args s = true := by
  refine va_Nw.use ?_ h
  cases w <;> first | rfl | cases hw
set_option maxHeartbeats 8000000 in
/-- a method's run is a contract -/
theorem Met_of {G : GlM} {l : Launch} {k : Nat} {ad : Nat → Nat} {as : List Value} {σ : Mem} {o : OutM} (hmt : MtP k) (hk : k ≠ 223) (hoc : ocM k < 7) (hl : l.stackTraces = false) (hw : WsM G l k (enM k as) σ o) (hlen : as.length ≤ mxM k) (has : ∀ v ∈ as, isOne v = true) (hav : ∀ v ∈ as, vkM (nxM σ) v = true) :
    vx_Met l (yM k) (wsC k) (rmC k) (PcC G ad as σ) (QcC G ad σ o) (XcC G ad σ o) (ncM k) (nsM k) (gU G) := by
  have hpn : plainName (yM k).cls = true := (ow_in hmt _ rfl hoc).2.1
  have key : ∀ (p : Program) (e : Env) (s : State) (m : MethodId) (args : Array Value) (below : List Frame) (meth : Method) (c : Code) (s₁ : State), BodyLoose p l (yM k) (headSpec (wsC k) (rmC k)) (byM k) (mxM k) (rtM k) e s m args below meth c s₁ → c.maxLocals = mxM k → c.exceptionTable.toList = tableOf (rwM k) → PcC G ad as σ args s →
      W p l e (headSpec (wsC k) (rmC k)).room s m args below meth c s.heap [] 0 0 (vx_MQ below (QcC G ad σ o) (XcC G ad σ o) args s (ncM k) (nsM k) (gU G)) (entryFrame m args (mxM k)) := by
    intro p e s m args below meth c s₁ B hml hex hv
    obtain ⟨rfl, hE, hR⟩ := hv
    have hts := atoms_spec (ws := wsC k) B.pre
    have hgw : ∀ w ∈ lw_tbl, goodWord w = true → w.before ((as.map (vaM ad)).toArray) s = true := fun w h1 h2 => hts w (List.mem_cons_of_mem _ (List.mem_filter.mpr ⟨h1, h2⟩))
    have hA : AcM G l k p (headSpec (wsC k) (rmC k)).room s m ((as.map (vaM ad)).toArray) meth c := ⟨⟨B.exec, B.bytes, hml, B.returns, B.notSynchronized, (name_of_methodNamed B.named B.method).1, findClass_of_methodNamed B.named⟩, hgw, hE, hex, hl, Nat.le_refl _, Nat.le_refl _, Nat.le_refl _, Nat.le_refl _⟩
    have hUA : ∀ q : Nat, s.heap.size ≤ q → gU G q := fun q hq => Nat.le_trans hE.2.2.2.2.2.2.2.2.1 hq
    have hlv := lv_entry (as.map (vaM ad)) (n := mxM k) (by rw [lg_len ad as has]; exact hlen)
    rw [lg_entry_eq]
    obtain ⟨a1, a2⟩ := lv_args_at ad as 0 has
    refine hw p e _ s m _ below meth c ad s.heap [] _ _ [] hA hR va_S.rf ⟨_, hlv, a2, fun i v hv => ?_⟩ ⟨rfl, fun v h => by cases h⟩ ?_
    · have h1 := en_get hv
      have h2 := a1 i v h1
      rw [Nat.zero_add] at h2
      exact ⟨h2, hav v (List.mem_of_getElem? h1)⟩
    · obtain ⟨r, σ'⟩ := o
      cases r with
      | inl v =>
        intro ad' H' locs' kc ks pc ls h1 h2 h3 h4 h5 h6 h7 h8
        refine W.widen h5 h6 (vx_ret ?_)
        have post : ∀ (t : State), t.heap = H' → QcC G ad σ ((.inl v, σ') : OutM) ((as.map (vaM ad)).toArray) s (.returned (v.map (vaM ad'))) t := fun t ht => ⟨ad', rfl, ⟨h1, h2, by rw [ht]; exact h3, h4.F ht⟩, h8⟩
        cases v with
        | none => exact W.vret B.exec B.bytes (B.returns.trans h7.2) (fun t ht _ => post t ht) h4.2.2 h7.1 (hlocks := B.notSynchronized)
        | some v =>
          cases v <;> first | exact absurd h7 (fun z => z) | skip
          case int x =>
            rcases h7.2 with e | ⟨e, e2⟩
            · exact W.iret B.exec B.bytes (B.returns.trans e) (fun t ht _ => post t ht) h4.2.2 h7.1 (hlocks := B.notSynchronized)
            · exact W.zret B.exec B.bytes (B.returns.trans e) (by rcases e2 with rfl | rfl <;> rfl) (fun t ht _ => post t ht) h4.2.2 h7.1 (hlocks := B.notSynchronized)
          case ref x =>
            refine W.aret B.exec B.bytes (B.returns.trans h7.2) (Or.inr ⟨_, rfl⟩) ?_ (fun t ht _ => post t ht) h4.2.2 h7.1 (hlocks := B.notSynchronized)
            rcases va_null ad' x with e | ⟨q, e⟩
            · exact Or.inl e
            · exact Or.inr ⟨q, e⟩
      | inr E =>
        intro hs0
        have hex0 : c.exceptionTable.toList = [] := by rw [hex]; unfold rwM; rw [hs0]; rfl
        refine ⟨fun ad' H' locs' kc ks pc ls st ic x h1 h2 h3 h4 h5 h6 h7 h8 h9 h10 h11 h12 => ?_, fun ad' H' locs' kc ks pc ls rest q ce h1 h2 h3 h4 h5 h6 h7 h8 h9 => ?_⟩
        · obtain ⟨i, len, a, cst⟩ := ic
          cases h7
          unfold okM at h6
          dsimp only at h6
          simp only [Bool.and_eq_true, decide_eq_true_eq] at h6
          obtain ⟨hd, ⟨⟨q1, q2⟩, q3⟩, q4⟩ := h6
          have e0 : Nat.beq (gaM a 0) 0 = false := by
            cases e0 : Nat.beq (gaM a 0) 0 with
            | false => rfl
            | true => exact absurd (h8.symm.trans (nb_eq e0)) h9
          rw [e0, cond_false] at q4
          simp only [Bool.and_eq_true, decide_eq_true_eq, Bool.or_eq_true, atM] at q4
          obtain ⟨⟨⟨⟨⟨⟨⟨⟨⟨⟨p1, p2⟩, p3⟩, p4⟩, p5⟩, p6⟩, p7⟩, p8⟩, p9⟩, p10⟩, p11⟩ := q4
          rw [show gaM a 0 = E from h8] at p1 p2 p5 p6
          obtain ⟨x1, x2, x3, x4, x5⟩ := ex_wd E p1 p2
          obtain ⟨tx, htx⟩ : ∃ tx, Cond.stringRef RX4 (gaM a 6) tx ∈ lw_tbl := by
            cases e9 : lw_tbl[gaM a 9]? with
            | none => rw [e9] at p9; cases p9
            | some w =>
              rw [e9] at p9
              cases w <;> first | cases p9 | skip
              case stringRef oo ii tx =>
                simp only [Bool.and_eq_true, decide_eq_true_eq] at p9
                refine ⟨tx, ?_⟩
                have := List.mem_of_getElem? e9
                rw [p9.1, p9.2] at this
                exact this
          obtain ⟨sa, hsa⟩ := hE.2.2.2.2.2.2.1 _ _ _ htx
          have hown : s.vm.findClass RX4 = some m.cls := by
            have := hA.1.2.2.2.2.2.2
            rw [hmt.1, p3] at this
            exact this
          have hat : ∀ w ∈ vx_atS RX4 (gaM a 7) (exM E) ["java/lang/RuntimeException", "java/lang/Exception"], w.before ((as.map (vaM ad)).toArray) s = true := by
            intro w hw
            rw [p6] at hw
            obtain ⟨w1, w2⟩ := x1 w hw
            cases e8 : goodWord w with
            | true => exact hgw w w1 e8
            | false =>
              rw [e8, Bool.false_or] at w2
              exact wk_use w2 (hE.1 w w1 w2)
          have hgood : ∀ w ∈ Cond.classLink RX4 x (exM E) :: Cond.initialized (exM E) :: vx_atS RX4 (gaM a 7) (exM E) ["java/lang/RuntimeException", "java/lang/Exception"], vx_ot w = true := by
            intro w hw
            rcases List.mem_cons.mp hw with rfl | hw
            · rfl
            · rcases List.mem_cons.mp hw with rfl | hw
              · rfl
              · rw [p6] at hw
                exact x2 w (List.mem_cons_of_mem _ (List.mem_cons_of_mem _ hw))
          have hxc : ∀ t : State, s.vm.Alike t.vm → H'.size ≤ t.heap.size → (∀ q : Nat, q < H'.size → t.heap[q]? = H'[q]?) → XcC G ad σ ((.inr E, σ') : OutM) (exM E) s t := by
            intro t ht hz hk2
            refine ⟨rfl, ad', h1, h2, ⟨h3.1.kept fun j q hq => hk2 _ (h3.1 j q hq).lt, h3.2⟩, Nat.le_trans h4.1 hz, fun q hq hn => ?_⟩
            rw [hk2 q (Nat.lt_of_lt_of_le hq h4.1)]
            exact h4.2.1 q hq hn
          have hfr : 2 + 3 < (headSpec (wsC k) (rmC k)).room.frames := Nat.lt_of_lt_of_le (by decide) p7
          have hlo : (st.map fun v => v.category).sum + (13 * (2 + 1) + 43) ≤ (headSpec (wsC k) (rmC k)).room.locals := Nat.le_trans (by omega) p8
          rcases p11 with ⟨⟨d4, d6⟩, d9⟩ | ⟨⟨d4, d7⟩, d10⟩
          · exact vx_throwS (names := ["java/lang/RuntimeException", "java/lang/Exception"]) B.exec B.bytes hl hown x4 x5 (hgw _ (List.mem_of_getElem? p5) rfl) (hgw _ x3 rfl) hsa hat hgood hE.2.2.2.2.1 hE.2.2.2.2.2.1 h4 (h5.trans hml.symm) (by rw [hd, nb_eq q1]) p10 d4 d6 d9 (fun z hz => by rw [hex0] at hz; cases hz) hfr hlo h11 h12 B.notSynchronized hxc h4.2.2 h11 h12
          · exact vx_throwSW (names := ["java/lang/RuntimeException", "java/lang/Exception"]) B.exec B.bytes hl hown x4 x5 (hgw _ (List.mem_of_getElem? p5) rfl) (hgw _ x3 rfl) hsa hat hgood hE.2.2.2.2.1 hE.2.2.2.2.2.1 h4 (h5.trans hml.symm) (by rw [hd, nb_eq q1]) p10 d4 d7 d10 (fun z hz => by rw [hex0] at hz; cases hz) hfr hlo h11 h12 B.notSynchronized hxc h4.2.2 h11 h12
        · exact vx_out (fun z hz => by rw [hex0] at hz; cases hz) B.notSynchronized h7 h8 h9 (fun t ht ha => ⟨rfl, ad', h1, h2, by rw [ht]; exact h3, h4.F ht⟩) h4.2.2 h5 h6
  cases e : (hsM k).isEmpty with
  | true =>
    have e0 : hsM k = [] := List.isEmpty_iff.mp e
    refine vx_ofW (cc := byM k) (maxL := mxM k) (ret := rtM k) (ws' := lw_tbl.filter goodWord) hpn (by unfold wsC cwM; rw [e]; rfl) (fun p e s m args below meth c s₁ B hml hex hv => key p e s m args below meth c s₁ B hml ?_ hv)
    unfold rwM
    rw [e0]
    cases e1 : c.exceptionTable.toList with
    | nil => rfl
    | cons a b => rw [e1] at hex; exact absurd (hex a List.mem_cons_self) (fun z => z)
  | false =>
    have hcw : cwM k = .codeWith (yM k) (byM k) (mxM k) (rtM k) (rwM k) := by unfold cwM; rw [e]; rfl
    refine vx_ofWH (cc := byM k) (maxL := mxM k) (ret := rtM k) (hh := rwM k) (ws' := lw_tbl.filter goodWord) hpn (by unfold wsC; rw [hcw]) (fun p e s m args below meth c s₁ B hml hv => key p e s m args below meth c s₁ B hml ?_ hv)
    refine vx_table (x := yM k) (y := yM k) (bytes := byM k) (maxL' := mxM k) (ret' := rtM k) B ?_
    have := atoms_spec (ws := wsC k) B.pre (cwM k) List.mem_cons_self
    rw [hcw] at this
    exact this
