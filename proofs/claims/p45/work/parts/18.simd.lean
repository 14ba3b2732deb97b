theorem my_own {k : Nat} (h : k < 113) : myM k = yM k := by
  unfold myM
  have e : ∀ n, 1000 ≤ n → Nat.beq k n = false := fun n hn => by
    cases e : Nat.beq k n with
    | false => rfl
    | true => have := nb_eq e; omega
  rw [e 1000 (by omega), e 1001 (by omega), e 1002 (by omega), e 1003 (by omega)]; rfl
theorem ml_own {c n k : Nat} (h : k < 113) : mlW (c, n, k, 0) = .methodLink (rcM c) n (yM k) ∧ mlW (c, n, k, 1) = .methodLinkNest (rcM c) n (yM k) RX4 := by
  constructor
  · show Cond.methodLink (rcM c) n (myM k) = _; rw [my_own h]
  · show Cond.methodLinkNest (rcM c) n (myM k) RX4 = _; rw [my_own h]
def pcM (ic : IcM) : Prop := match ic.1 with
  | .invokestatic _ | .invokevirtual _ | .invokespecial _ => True
  | _ => False
set_option maxHeartbeats 16000000 in
theorem sim_d {G : GlM} {l : Launch} {k : Nat} {ic : IcM} {fr : FrM} {σ : Mem} {o : OutM} {Φ : Nat → List Value → Mem → Option OutM} {K : FrM → Mem → Option OutM}
    (hMt : ∀ k, 0 ≤ k → k < 114 → MtP k) (hk : k < 114) (hΦ : ∀ k' as σ' o', k' < 113 → Φ k' as σ' = some o' → WsM G l k' (enM k' as) σ' o')
    (hK : ∀ fr' σ', K fr' σ' = some o → WsM G l k fr' σ' o) (hok : okM k fr.1 ic = true) (hsp : pcM ic) (h : stM Φ K k ic fr σ = some o) : WsM G l k fr σ o := by
  have hmt := hMt k (Nat.zero_le _) hk
  obtain ⟨pc, la, sa, kc, ks⟩ := fr
  obtain ⟨i, len, a, cst⟩ := ic
  intro p e R s m args below meth c ad H locs Q ls st hA hR hS hL hsk hX
  obtain ⟨rfl, hsv⟩ := hsk
  obtain ⟨⟨hx, hb, hml, hrt, hlk, hnm, hown⟩, hts, hE, hr1, hr2, hr3, hr4⟩ := id hA
  obtain ⟨hP, hD, hT, hAd⟩ := id hR
  obtain ⟨hE1, hK2, hT2, hB0, hAO⟩ := id hE
  unfold okM at hok
  dsimp only at hok
  rw [Bool.and_eq_true] at hok
  obtain ⟨hd, hq⟩ := hok
  replace hd := of_decide_eq_true hd
  have tl1 : ∀ {v : Value} {r : List Value}, (∀ w ∈ v :: r, vkM (nxM σ) w = true) → ∀ w ∈ r, vkM (nxM σ) w = true := fun h => (List.forall_mem_cons.mp h).2
  have hmlo := hml
  have hlz : ls.size = mxM k := by obtain ⟨lv, h1, -⟩ := hL; exact h1.1
  have go : ∀ {pc' : Nat} {sa' : List Value}, K (pc', la, sa', kc, ks) σ = some o → (∀ v ∈ sa', vkM (nxM σ) v = true) → W p l e R s m args below meth c H locs kc ks Q (F0 m pc' ls (sa'.map (vaM ad))) :=
    fun h h3 => hK _ _ h p e R s m args below meth c ad _ _ Q _ _ hA hR hS hL ⟨rfl, h3⟩ hX
  have hws : ∀ {w : Cond}, w ∈ lw_tbl → goodWord w = true → w.before args s = true := fun h1 h2 => hts _ h1 h2
  have evU : ∀ U : State, U.heap = H → s.WarmedH U.vm → EvG G U := fun U hU hW => Ev_next hE hW (by rw [hU]; exact hS.1) (fun q h1 h2 => by rw [hU]; exact hS.2.1 q h1 h2)
  -- a call of one of the methods
  have main : ∀ (x : Nat), clOk k a = true → caM Φ K k a (pc, la, sa, kc, ks) σ = some o →
      (∀ (v : Option Value) (σ' : Mem), Φ (gaM a 0) (sa.take (gaM a 1)).reverse σ = some (.inl v, σ') → gaM a 1 ≤ sa.length → (∀ v ∈ (sa.take (gaM a 1)).reverse, isOne v = true) → (((sa.drop (gaM a 1)).map (vaM ad)).map fun v => v.category).sum ≤ 8 → kc + ncM (gaM a 0) ≤ R.cells ∧ ks + nsM (gaM a 0) ≤ R.slots →
        Met l (yM (gaM a 0)) (wsC (gaM a 0)) (rmC (gaM a 0)) (PcC G ad (sa.take (gaM a 1)).reverse σ) (QcC G ad σ (.inl v, σ')) (ncM (gaM a 0)) (nsM (gaM a 0)) (gU G) →
        ∃ a9, va_Run p l e R s m args below meth c H locs kc ks (ncM (gaM a 0)) (nsM (gaM a 0)) (F0 m pc ls (sa.map (vaM ad))) ((sa.drop (gaM a 1)).map (vaM ad)) (QcC G ad σ (.inl v, σ') a9) (gU G)) →
      W p l e R s m args below meth c H locs kc ks Q (F0 m pc ls (sa.map (vaM ad))) := by
    intro x hcl h hrun
    unfold clOk at hcl
    simp only [Bool.and_eq_true, decide_eq_true_eq] at hcl
    obtain ⟨⟨⟨⟨⟨⟨⟨⟨⟨c1, c2⟩, c3⟩, c4⟩, c5⟩, c6⟩, c7⟩, c8⟩, c9⟩, c10⟩ := hcl
    unfold caM at h
    dsimp only at h
    obtain ⟨⟨⟨g1, g2⟩, g3, g4, g5⟩, h⟩ := in_no h
    rw [c5, c7] at g4
    rw [c6, c8] at g5
    cases ef : Φ (gaM a 0) (sa.take (gaM a 1)).reverse σ with
    | none => rw [ef] at h; cases h
    | some o' =>
      obtain ⟨r, σ'⟩ := o'
      cases r with
      | inr E => rw [ef] at h; cases h
      | inl v =>
      rw [ef] at h
      have hone : ∀ v ∈ (sa.take (gaM a 1)).reverse, isOne v = true := fun v hv => List.all_eq_true.mp g2 v (List.mem_reverse.mp hv)
      have hvk : ∀ v ∈ (sa.take (gaM a 1)).reverse, vkM (nxM σ) v = true := fun v hv => hsv v (List.mem_of_mem_take (List.mem_reverse.mp hv))
      have hdk : ∀ v ∈ sa.drop (gaM a 1), vkM (nxM σ) v = true := fun v hv => hsv v (List.mem_of_mem_drop hv)
      have hmt' := hMt (gaM a 0) (Nat.zero_le _) (by omega)
      have hmet := Met_of (ad := ad) hmt' c10 (hΦ _ _ _ _ c1 ef) (by rw [List.length_reverse, List.length_take]; omega) hone hvk
      obtain ⟨a9, hr⟩ := hrun v σ' ef g1 hone (by rw [cat_map]; exact g3) ⟨Nat.le_trans g4 hr3, Nat.le_trans g5 hr4⟩ hmet
      refine call_end hr hS ?_
      intro ad' H1 locs1 h1 h2 h3 h4 h5
      dsimp only at h
      rw [c5, c6] at h
      obtain ⟨e1, e2⟩ := Sk_ad hdk h2 h1
      have hst : (v.toList ++ sa.drop (gaM a 1)).map (vaM ad') = (v.map (vaM ad')).toList ++ (sa.drop (gaM a 1)).map (vaM ad) := by
        rw [List.map_append, e1]
        cases v <;> rfl
      have g := hK _ _ h p e R s m args below meth c ad' H1 locs1 Q ls _ hA h3 h5 (Lo_ad hL h2 h1) ⟨rfl, ?_⟩ (Xi_mono hX h2 h1)
      · dsimp only at g
        rw [hst] at g
        exact g
      · intro w hw
        rcases List.mem_append.mp hw with hw | hw
        · cases v with
          | none => cases hw
          | some v => rw [List.mem_singleton.mp hw]; exact h4
        · exact e2 w hw
  have fix : CallFix p m c (byM k) (mxM k) s args [] (owM k) := ⟨hx, hb, hml, hown, fun _ h => by cases h⟩
  have pcU : ∀ (as : List Value) (U : State), U.heap = H → s.WarmedH U.vm → PcC G ad as σ ((as.map (vaM ad)).toArray) U := fun as U hU hW => ⟨rfl, evU U hU hW, by rw [hU]; exact hR⟩
  -- what a callee's row gives
  have rowf : ∀ k', k' < 113 → ocM k' < 6 → (cwM k' ∈ lw_tbl ∧ (cwM k').before args s = true ∧ (Cond.initialized (yM k').cls).before args s = true ∧ ((yM k').cls ≠ "java/lang/invoke/MethodHandle" ∧ (yM k').cls ≠ "java/lang/invoke/VarHandle") ∧ (∀ sig, parseMethodDescriptor (yM k').desc = some sig → npM k' = sig.parameters.length)) := by
    intro k' h1 h2
    have hmt' := hMt k' (Nat.zero_le _) (by omega)
    obtain ⟨o1, o2, o3, o4⟩ := ow_in hmt' _ rfl h2
    have hcw : cwM k' ∈ lw_tbl := hmt'.2.1.resolve_left (by omega)
    refine ⟨hcw, hws hcw rfl, hws o1 rfl, ⟨o3, o4⟩, fun sig hs => ?_⟩
    have := hmt'.2.2.2.2.2
    rw [hs] at this
    exact (Option.some.inj this).symm
  -- the receiver, and what it makes of the stack
  have recv : ∀ (n : Nat), clOk k a = true → gaM a 1 = npM (gaM a 0) + 1 → ocM (gaM a 0) < 5 → rcM_ (gaM a 1) (fun b => if tkM σ b = (1, gaM a 8) then caM Φ K k a (pc, la, sa, kc, ks) σ else none) sa = some o →
      (∀ (b : Nat) (v : Option Value) (σ' : Mem), gaM a 1 ≤ sa.length → (((sa.drop (gaM a 1)).map (vaM ad)).map fun v => v.category).sum ≤ 8 → kc + ncM (gaM a 0) ≤ R.cells ∧ ks + nsM (gaM a 0) ≤ R.slots →
        Met l (yM (gaM a 0)) (wsC (gaM a 0)) (rmC (gaM a 0)) (PcC G ad (sa.take (gaM a 1)).reverse σ) (QcC G ad σ (.inl v, σ')) (ncM (gaM a 0)) (nsM (gaM a 0)) (gU G) →
        (gaM a 0 < 113 ∧ nfM (gaM a 0) + 1 ≤ R.frames ∧ 8 + (mxM (gaM a 0) + 11) + nlM (gaM a 0) ≤ R.locals) →
        PreV s H (owM (gaM a 0)) (ad b) (PcC G ad (sa.take (gaM a 1)).reverse σ) ((sa.take (gaM a 1 - 1)).reverse.map (vaM ad)) → ((sa.take (gaM a 1 - 1)).reverse.map (vaM ad)).length = npM (gaM a 0) →
        sa.map (vaM ad) = ((sa.take (gaM a 1 - 1)).reverse.map (vaM ad)).reverse ++ .ref (ad b) :: (sa.drop (gaM a 1)).map (vaM ad) →
        (Cond.code (yM (gaM a 0)) (byM (gaM a 0)) (mxM (gaM a 0)) (rtM (gaM a 0)) ∈ wsC (gaM a 0) ∧ cwM (gaM a 0) ∈ lw_tbl ∧ (Cond.code (yM (gaM a 0)) (byM (gaM a 0)) (mxM (gaM a 0)) (rtM (gaM a 0))).before args s = true) →
        ∃ a9, va_Run p l e R s m args below meth c H locs kc ks (ncM (gaM a 0)) (nsM (gaM a 0)) (F0 m pc ls (sa.map (vaM ad))) ((sa.drop (gaM a 1)).map (vaM ad)) (QcC G ad σ (.inl v, σ') a9) (gU G)) →
      W p l e R s m args below meth c H locs kc ks Q (F0 m pc ls (sa.map (vaM ad))) := by
    intro n q2 q3 q6 h hrun
    obtain ⟨b, t, hb1, h⟩ := in_rc h
    obtain ⟨htk, h⟩ := in_no h
    obtain ⟨r1, r2, r3⟩ := take_rc (by omega) hb1
    obtain ⟨k1, k2, k3⟩ := tk_kind (κ := 1) hT (by rw [htk]) (Nat.le_refl 1)
    refine main n q2 h (fun v σ' hf hle hone hcat hroom hmet => ?_)
    have hcl := q2
    unfold clOk at hcl
    simp only [Bool.and_eq_true, decide_eq_true_eq] at hcl
    obtain ⟨⟨⟨⟨⟨⟨⟨⟨⟨c1, c2⟩, c3⟩, c4⟩, c5⟩, c6⟩, c7⟩, c8⟩, c9⟩, c10⟩ := hcl
    obtain ⟨w1, w2, w3, w4, w5⟩ := rowf _ c1 c10
    have hmt' := hMt (gaM a 0) (Nat.zero_le _) (by omega)
    have hpt := cs_at (c := gC G) (ad := ad) (k3 (by decide)) k1
    rw [ce_obj htk] at hpt
    obtain ⟨cellB, u1, u2, u3⟩ := va_recv hK2 hP (cl_at (by rw [c9]; exact q6)) hpt
    have hcls : s.vm.findClass (owM (gaM a 0)) = some cellB.cls := by
      rw [hmt'.1, ← cl_rc _ q6, ← c9]; exact u3
    have hpre : PreV s H (owM (gaM a 0)) (ad b) (PcC G ad (sa.take (gaM a 1)).reverse σ) ((sa.take (gaM a 1 - 1)).reverse.map (vaM ad)) := by
      refine ⟨Pc_blind, ⟨cellB, u1, u2, hcls⟩, fun U hU hW => ?_⟩
      have := pcU (sa.take (gaM a 1)).reverse U hU hW
      have e9 : ((sa.take (gaM a 1)).reverse.map (vaM ad)).toArray = (Value.ref (ad b) :: (sa.take (gaM a 1 - 1)).reverse.map (vaM ad)).toArray := by rw [r2, List.map_cons, va_nz k2]
      rw [e9] at this
      exact this
    have hn : ((sa.take (gaM a 1 - 1)).reverse.map (vaM ad)).length = npM (gaM a 0) := by rw [List.length_map, List.length_reverse, List.length_take]; omega
    have hst : sa.map (vaM ad) = ((sa.take (gaM a 1 - 1)).reverse.map (vaM ad)).reverse ++ .ref (ad b) :: (sa.drop (gaM a 1)).map (vaM ad) := by
      rw [← List.map_reverse, List.reverse_reverse]
      conv => lhs; rw [r3]
      rw [List.map_append, List.map_cons, va_nz k2]
    exact hrun b v σ' hle hcat hroom hmet ⟨c1, Nat.le_trans c3 hr1, Nat.le_trans c4 hr2⟩ hpre hn hst ⟨List.mem_cons_self, w1, w2⟩
  cases i
  case invokevirtual n =>
    simp only [Bool.and_eq_true, decide_eq_true_eq] at hq
    obtain ⟨⟨⟨⟨⟨q1, q2⟩, q3⟩, q4⟩, q6⟩, q7⟩ := hq
    obtain rfl := nb_eq q1
    refine recv n q2 q3 q6 h (fun b v σ' hle hcat hroom hmet ⟨c1, c3, c4⟩ hpre hn hst ⟨x1, x2, x3⟩ => ?_)
    have hmt' := hMt (gaM a 0) (Nat.zero_le _) (by omega)
    obtain ⟨w6, w7⟩ := hmt'.2.2.2.1 q4
    obtain ⟨w1, w2, w3, w4, w5⟩ := rowf _ c1 (by omega)
    cases e : Nat.beq (gaM a 2) 2 with
    | true =>
      rw [e, cond_true] at q7
      have hml := mlL_ok _ (List.mem_of_getElem? (of_decide_eq_true q7))
      rw [(ml_own c1).1, ← hmt.1] at hml
      exact ⟨_, va_runV (n := npM (gaM a 0)) fix hmet ⟨⟨rfl, rfl, c3, c4, wsC_pay x2 hts, x1, x3, w3, w4, w5, hws hml rfl⟩, hws w6 rfl, hws w7 rfl⟩ hpre rfl hn hlz hst (lv_room hcat) hd hroom⟩
    | false =>
      rw [e, cond_false] at q7
      simp only [Bool.and_eq_true] at q7
      have hml := mlL_ok _ (List.mem_of_getElem? (of_decide_eq_true q7.2))
      rw [(ml_own c1).2, ← hmt.1] at hml
      exact ⟨_, va_runVN (n := npM (gaM a 0)) fix hmet ⟨⟨⟨rfl, rfl, c3, c4, wsC_pay x2 hts, x1⟩, x3, w3, w4, w5, wk_use rfl (hE1 _ hml rfl)⟩, hws w6 rfl, hws w7 rfl⟩ hpre rfl hn hlz hst (lv_room hcat) hd hroom⟩
  case invokespecial n =>
    simp only [Bool.and_eq_true] at hq
    obtain ⟨q1, hq⟩ := hq
    obtain rfl := nb_eq q1
    cases e9 : Nat.beq (gaM a 2) 9 with
    | true =>
      rw [e9, cond_true] at hq
      simp only [stM, e9, cond_true] at h
      simp only [Bool.and_eq_true, decide_eq_true_eq] at hq
      obtain ⟨⟨q2, q3⟩, q4⟩ := hq
      obtain ⟨v, r, rfl, g1⟩ := in_R1 h
      obtain ⟨⟨g2, g3⟩, g1⟩ := in_no g1
      have hml := mlL_ok _ (List.mem_of_getElem? (of_decide_eq_true q2))
      have hml : Cond.methodLink (owM k) n Lib.objectInit ∈ lw_tbl := by rw [hmt.1]; exact hml
      obtain ⟨-, -, -, -, m1, m2⟩ := ma_wd
      rw [List.map_cons, va_nz g2]
      refine W.objInit hx hb hown (hws hml rfl) (hws m1 rfl) (hws m2 rfl) rfl (hlz.trans hmlo.symm) rfl hd (Nat.le_trans q3 hr1) ?_ (go g1 (tl1 hsv))
      exact Nat.le_trans (Nat.add_le_add_right (lv_room (m := m) (pc := pc) (ls := ls) (rest := Value.ref (ad v) :: r.map (vaM ad)) (st := r.map (vaM ad)) (by rw [cat_map]; exact g3)) 12) (Nat.le_trans q4 hr2)
    | false =>
      rw [e9, cond_false] at hq
      simp only [stM, e9, cond_false] at h
      simp only [Bool.and_eq_true, decide_eq_true_eq] at hq
      obtain ⟨⟨⟨⟨⟨q2, q3⟩, q4⟩, q6⟩, q8⟩, q7⟩ := hq
      refine recv n q2 q3 q6 h (fun b v σ' hle hcat hroom hmet ⟨c1, c3, c4⟩ hpre hn hst ⟨x1, x2, x3⟩ => ?_)
      have hmt' := hMt (gaM a 0) (Nat.zero_le _) (by omega)
      obtain ⟨w6, w7⟩ := hmt'.2.2.2.2.1 q4
      obtain ⟨w1, w2, w3, w4, w5⟩ := rowf _ c1 (by omega)
      rw [q8] at x1 x3
      have hpre2 : PreS s H (PcC G ad (sa.take (gaM a 1)).reverse σ) (.ref (ad b) :: (sa.take (gaM a 1 - 1)).reverse.map (vaM ad)) := ⟨hpre.1, hpre.2.2⟩
      cases e : Nat.beq (gaM a 2) 4 with
      | true =>
        rw [e, cond_true] at q7
        have hml := mlL_ok _ (List.mem_of_getElem? (of_decide_eq_true q7))
        rw [(ml_own c1).1, ← hmt.1] at hml
        exact ⟨_, va_runI (n := npM (gaM a 0)) fix hmet ⟨⟨rfl, rfl, c3, c4, wsC_pay x2 hts, x1, x3, w3, w4, w5, hws hml rfl⟩, w7, hws w6 rfl⟩ hpre2 rfl hn hlz hst (lv_room hcat) hd hroom⟩
      | false =>
        rw [e, cond_false] at q7
        simp only [Bool.and_eq_true] at q7
        have hml := mlL_ok _ (List.mem_of_getElem? (of_decide_eq_true q7.2))
        rw [(ml_own c1).2, ← hmt.1] at hml
        exact ⟨_, va_runIN (n := npM (gaM a 0)) fix hmet ⟨⟨⟨rfl, rfl, c3, c4, wsC_pay x2 hts, x1⟩, x3, w3, w4, w5, wk_use rfl (hE1 _ hml rfl)⟩, w7, hws w6 rfl⟩ hpre2 rfl hn hlz hst (lv_room hcat) hd hroom⟩
  case invokestatic n =>
    simp only [Bool.and_eq_true] at hq
    obtain ⟨q1, hq⟩ := hq
    obtain rfl := nb_eq q1
    obtain ⟨⟨m1, m2⟩, ⟨m3, m4⟩, m5, ⟨m6, m7, m8⟩, -⟩ := ma_wd
    cases e6 : Nat.beq (gaM a 2) 6 with
    | true =>
      rw [e6, cond_true] at hq
      simp only [stM, e6, cond_true] at h
      simp only [Bool.and_eq_true, decide_eq_true_eq] at hq
      obtain ⟨⟨⟨⟨q2, q3⟩, q4⟩, q5⟩, q6⟩ := hq
      obtain ⟨x, y, r, rfl, g1⟩ := in_I2 h
      obtain ⟨⟨g2, g3, g4⟩, g1⟩ := in_no g1
      have hml2 : Cond.methodLink (owM k) n Lib.Math.max.name ∈ lw_tbl := by rw [hmt.1]; exact mlL_ok _ (List.mem_of_getElem? (of_decide_eq_true q2))
      exact va_mmax hx hb (hml.trans hlz.symm) hown (hws hml2 rfl) (hws m1 rfl) (hws m5 rfl) (hws m2 rfl) (Nat.le_trans q3 hr1) (by rw [cat_map]; omega) (Nat.le_trans g3 (by rw [q5]; exact hr3)) (Nat.le_trans g4 (by rw [q6]; exact hr4)) hd (go g1 (List.forall_mem_cons.mpr ⟨rfl, tl1 (tl1 hsv)⟩))
    | false =>
    rw [e6, cond_false] at hq
    cases e7 : Nat.beq (gaM a 2) 7 with
    | true =>
      rw [e7, cond_true] at hq
      simp only [stM, e6, e7, cond_true, cond_false] at h
      simp only [Bool.and_eq_true, decide_eq_true_eq] at hq
      obtain ⟨⟨⟨⟨q2, q3⟩, q4⟩, q5⟩, q6⟩ := hq
      obtain ⟨x, y, r, rfl, g1⟩ := in_I2 h
      obtain ⟨⟨g2, g3, g4⟩, g1⟩ := in_no g1
      have hml2 : Cond.methodLink (owM k) n Lib.Math.min.name ∈ lw_tbl := by rw [hmt.1]; exact mlL_ok _ (List.mem_of_getElem? (of_decide_eq_true q2))
      exact va_mmin hx hb (hml.trans hlz.symm) hown (hws hml2 rfl) (hws m3 rfl) (hws m5 rfl) (hws m4 rfl) (Nat.le_trans q3 hr1) (by rw [cat_map]; omega) (Nat.le_trans g3 (by rw [q5]; exact hr3)) (Nat.le_trans g4 (by rw [q6]; exact hr4)) hd (go g1 (List.forall_mem_cons.mpr ⟨rfl, tl1 (tl1 hsv)⟩))
    | false =>
    rw [e7, cond_false] at hq
    cases e8 : Nat.beq (gaM a 2) 8 with
    | true =>
      rw [e8, cond_true] at hq
      simp only [stM, e6, e7, e8, cond_true, cond_false] at h
      simp only [Bool.and_eq_true, decide_eq_true_eq] at hq
      obtain ⟨⟨q2, q3⟩, q4⟩ := hq
      obtain ⟨nn, dp, dv, sp, sv, r, rfl, g1⟩ := in_Cp h
      obtain ⟨⟨⟨g2, g3, g4, g5⟩, ⟨g6, g7, g8⟩, g9, g10, g11⟩, g1⟩ := in_no g1
      obtain ⟨k1, k2, -⟩ := tk_kind (κ := 2) hT g2 (by decide)
      obtain ⟨j1, j2, -⟩ := tk_kind (κ := 2) hT g4 (by decide)
      have hps := cs_at (c := gC G) (ad := ad) g3 k1
      have hpd := cs_at (c := gC G) (ad := ad) g5 j1
      rw [ce_int g2 (Or.inl rfl)] at hps
      rw [ce_int g4 (Or.inl rfl)] at hpd
      have hml2 : Cond.methodLink (owM k) n arraycopyName ∈ lw_tbl := by rw [hmt.1]; exact mlL_ok _ (List.mem_of_getElem? (of_decide_eq_true q2))
      simp only [List.map_cons]
      rw [va_nz k2, va_nz j2]
      refine va_copyi (ty := .int) hx hb (hml.trans hlz.symm) hown (hws hml2 rfl) (hws m6 rfl) (hws m7 rfl) (hws m8 rfl) hK2 hP hD hS (sv - 8) (dv - 8) 0 0 hps hpd (ty_at _).1 (ty_at _).1 rfl g6 g7 g8 g9 g10 (fun _ _ => rfl) (Nat.le_trans q3 hr1) (by rw [cat_map]; omega) hd (fun H1 locs1 p1 d1 s1 => ?_)
      have hce : ceM (gC G) ad (cpM σ sv sp.toNatClampNeg dv dp.toNatClampNeg nn.toNatClampNeg) dv = .inl (gC G 2, (tkM σ dv).2, .inl (va_cpy (rdM σ sv) (rdM σ dv) sp.toNatClampNeg dp.toNatClampNeg nn.toNatClampNeg)) := by
        rw [ce_int (κ := 2) (σ := cpM σ sv sp.toNatClampNeg dv dp.toNatClampNeg nn.toNatClampNeg) g4 (Or.inl rfl)]
        have hrow : rdM (cpM σ sv sp.toNatClampNeg dv dp.toNatClampNeg nn.toNatClampNeg) dv = va_cpy (rdM σ sv) (rdM σ dv) sp.toNatClampNeg dp.toNatClampNeg nn.toNatClampNeg := by
          funext i
          show (if dv = dv ∧ (dp.toNatClampNeg ≤ i ∧ i < dp.toNatClampNeg + nn.toNatClampNeg) then _ else _) = if _ then _ else _
          by_cases ee : dp.toNatClampNeg ≤ i ∧ i < dp.toNatClampNeg + nn.toNatClampNeg
          · rw [if_pos ⟨rfl, ee⟩, if_pos ee]; rfl
          · rw [if_neg (fun z => ee z.2), if_neg ee]; rfl
        rw [hrow]; rfl
      rw [← hce] at p1 d1
      refine hK _ _ g1 p e R s m args below meth c ad H1 locs1 Q ls _ hA (Rp_set hR g5 j1 rfl (fun _ => rfl) (fun u j hu => if_neg (fun z => hu z.1)) (fun _ _ _ => rfl) (fun j => hT.2.2.2.1 dv j) p1 d1) s1 hL ⟨rfl, tl1 (tl1 (tl1 (tl1 (tl1 hsv))))⟩ hX
    | false =>
      rw [e8, cond_false] at hq
      simp only [stM, e6, e7, e8, cond_false] at h
      simp only [Bool.and_eq_true, decide_eq_true_eq] at hq
      obtain ⟨⟨⟨q2, q3⟩, q4⟩, q7⟩ := hq
      refine main n q2 h (fun v σ' hf hle hone hcat hroom hmet => ?_)
      have hcl := q2
      unfold clOk at hcl
      simp only [Bool.and_eq_true, decide_eq_true_eq] at hcl
      obtain ⟨⟨⟨⟨⟨⟨⟨⟨⟨c1, c2⟩, c3⟩, c4⟩, c5⟩, c6⟩, c7⟩, c8⟩, c9⟩, c10⟩ := hcl
      obtain ⟨w1, w2, w3, w4, w5⟩ := rowf _ c1 c10
      have hmt' := hMt (gaM a 0) (Nat.zero_le _) (by omega)
      have w6 := (hmt'.2.2.1 q4).resolve_left (by omega)
      have hpre : PreS s H (PcC G ad (sa.take (gaM a 1)).reverse σ) ((sa.take (gaM a 1)).reverse.map (vaM ad)) := ⟨Pc_blind, fun U hU hW => pcU _ U hU hW⟩
      have hn : ((sa.take (gaM a 1)).reverse.map (vaM ad)).length = npM (gaM a 0) := by rw [List.length_map, List.length_reverse, List.length_take]; omega
      have hst : sa.map (vaM ad) = ((sa.take (gaM a 1)).reverse.map (vaM ad)).reverse ++ (sa.drop (gaM a 1)).map (vaM ad) := by
        rw [← List.map_reverse, List.reverse_reverse, ← List.map_append, List.take_append_drop]
      have d3 := Nat.le_trans c3 hr1
      have d4 := Nat.le_trans c4 hr2
      cases e0 : Nat.beq (gaM a 2) 0 with
      | true =>
        rw [e0, cond_true] at q7
        have hml := mlL_ok _ (List.mem_of_getElem? (of_decide_eq_true q7))
        rw [(ml_own c1).1, ← hmt.1] at hml
        exact ⟨_, va_runS (n := npM (gaM a 0)) fix hmet ⟨⟨rfl, rfl, d3, d4, wsC_pay w1 hts, List.mem_cons_self, w2, w3, w4, w5, hws hml rfl⟩, hws w6 rfl⟩ hpre rfl hn hlz hst (lv_room hcat) hd hroom⟩
      | false =>
        rw [e0, cond_false] at q7
        simp only [Bool.and_eq_true] at q7
        have hml := mlL_ok _ (List.mem_of_getElem? (of_decide_eq_true q7.2))
        rw [(ml_own c1).2, ← hmt.1] at hml
        exact ⟨_, va_runSN (n := npM (gaM a 0)) fix hmet ⟨⟨⟨rfl, rfl, d3, d4, wsC_pay w1 hts, List.mem_cons_self⟩, w2, w3, w4, w5, wk_use rfl (hE1 _ hml rfl)⟩, hws w6 rfl, trivial⟩ hpre rfl hn hlz hst (lv_room hcat) hd hroom⟩
  all_goals exact absurd hsp (fun z => z)
