theorem nb_eq {a b : Nat} (h : Nat.beq a b = true) : a = b := Nat.eq_of_beq_eq_true h
theorem va_null (ad : Nat → Nat) (x : Nat) : vaM ad (.ref x) = .null ∨ ∃ q, vaM ad (.ref x) = .ref q := by
  by_cases h : x = 0
  · subst h; exact Or.inl rfl
  · exact Or.inr ⟨ad x, va_nz h⟩
theorem fv_va (ad : Nat → Nat) (σ : Mem) (v k κ : Nat) : vaM ad (fvM σ v k κ) = bif Nat.beq κ 1 then vaM ad (.ref (prM σ v k)) else .int (rdM σ v k) := by
  unfold fvM
  cases Nat.beq κ 1 <;> rfl
theorem fv_vk {n : Nat} {σ : Mem} {v k κ : Nat} (h : prM σ v k < n) : vkM n (fvM σ v k κ) = true := by
  unfold fvM
  cases Nat.beq κ 1
  · rfl
  · exact decide_eq_true h
theorem i32_nlt {a b : Int32} (h : ¬ a < b) : b ≤ a := Int32.not_lt.mp h
theorem i32_nle {a b : Int32} (h : ¬ a ≤ b) : b < a := Int32.not_le.mp h
theorem i32_le {a b : Int32} (h : a ≤ b) : ¬ b < a := Int32.not_lt.mpr h
theorem ch_ok {x : Int32} (h0 : 0 ≤ x) (h : x < 65536) : narrow .char (.int x) = .int x ∧ fits .char (.int x) = true := by
  obtain ⟨j, hj, rfl⟩ := nI_of (x := x) (i32_le h0)
  have hj2 : j < 65536 := by
    rw [Int32.lt_iff_toInt_lt, nI_toInt hj] at h
    have : (65536 : Int32).toInt = 65536 := by decide
    omega
  exact pk_charN hj2
def spM (ic : IcM) : Prop := match ic.1 with
  | .invokestatic _ | .invokevirtual _ | .invokespecial _ | .new _ | .newarray _ | .anewarray _ | .tableswitch _ _ _ _ | .putfield _ | .iastore | .bastore | .aastore | .ireturn | .lreturn | .return_ => True
  | _ => False
set_option maxHeartbeats 8000000 in
theorem sim_a {G : GlM} {l : Launch} {k : Nat} {ic : IcM} {fr : FrM} {σ : Mem} {o : OutM} {Φ : Nat → List Value → Mem → Option OutM} {K : FrM → Mem → Option OutM}
    (hmt : MtP k) (hK : ∀ fr' σ', K fr' σ' = some o → WsM G l k fr' σ' o) (hok : okM k fr.1 ic = true) (hsp : ¬ spM ic) (h : stM Φ K k ic fr σ = some o) : WsM G l k fr σ o := by
  obtain ⟨pc, la, sa, kc, ks⟩ := fr
  obtain ⟨i, len, a, cst⟩ := ic
  intro p e R s m args below meth c ad H locs Q ls st hA hR hS hL hsk hX
  obtain ⟨rfl, hsv⟩ := hsk
  obtain ⟨⟨hx, hb, hml, hrt, hlk, hnm, hown⟩, hts, hE, hr1, hr2, hr3, hr4⟩ := id hA
  obtain ⟨hP, hD, hT, hAd⟩ := id hR
  obtain ⟨hE1, hK2, hT2, hB0, hAO⟩ := id hE
  have hts2 : ∀ w ∈ lw_tbl.filter goodWord, w.before args s = true := fun w hw => hts w (List.mem_filter.mp hw).1 (List.mem_filter.mp hw).2
  unfold okM at hok
  dsimp only at hok
  rw [Bool.and_eq_true] at hok
  obtain ⟨hd, hq⟩ := hok
  replace hd := of_decide_eq_true hd
  have go : ∀ {pc' : Nat} {la' : List (Option Value)} {sa' : List Value} {ls' : Array Slot}, K (pc', la', sa', kc, ks) σ = some o → LoM (llM k) (nxM σ) ad la' ls' (mxM k) → (∀ v ∈ sa', vkM (nxM σ) v = true) → W p l e R s m args below meth c H locs kc ks Q (F0 m pc' ls' (sa'.map (vaM ad))) :=
    fun h h1 h2 => hK _ _ h p e R s m args below meth c ad H locs Q _ _ hA hR hS h1 ⟨rfl, h2⟩ hX
  have cs1 : ∀ {v : Value} {r : List Value}, vkM (nxM σ) v = true → (∀ w ∈ r, vkM (nxM σ) w = true) → ∀ w ∈ v :: r, vkM (nxM σ) w = true := fun h1 h2 => List.forall_mem_cons.mpr ⟨h1, h2⟩
  have tl1 : ∀ {v : Value} {r : List Value}, (∀ w ∈ v :: r, vkM (nxM σ) w = true) → ∀ w ∈ r, vkM (nxM σ) w = true := fun h => (List.forall_mem_cons.mp h).2
  cases i
  case iconst n =>
    simp only [Bool.and_eq_true, decide_eq_true_eq] at hq
    obtain rfl := nb_eq hq.2
    exact lv_iconst hx hb hd hq.1 (go h hL (cs1 rfl hsv))
  case bipush n =>
    simp only [Bool.and_eq_true, decide_eq_true_eq] at hq
    obtain rfl := nb_eq hq.2
    exact lv_bipush hx hb hd hq.1 (go h hL (cs1 rfl hsv))
  case sipush n =>
    simp only [Bool.and_eq_true, decide_eq_true_eq] at hq
    obtain rfl := nb_eq hq.2
    exact lv_sipush hx hb hd hq.1 (go h hL (cs1 rfl hsv))
  case ldc n =>
    simp only [Bool.and_eq_true, decide_eq_true_eq, atM] at hq
    obtain rfl := nb_eq hq.2
    exact lv_ldc hx hb hown (hts _ (List.mem_of_getElem? hq.1) rfl) hd (go h hL (cs1 rfl hsv))
  case ldc_w n =>
    simp only [Bool.and_eq_true, decide_eq_true_eq, atM] at hq
    obtain rfl := nb_eq hq.2
    exact lv_ldcw hx hb hown (hts _ (List.mem_of_getElem? hq.1) rfl) hd (go h hL (cs1 rfl hsv))
  case lconst n =>
    simp only [Bool.and_eq_true, decide_eq_true_eq] at hq
    obtain rfl := nb_eq hq.2
    exact lv_lconst hx hb hd hq.1 (go h hL (cs1 rfl hsv))
  case iload n =>
    simp only [Bool.and_eq_true] at hq
    obtain rfl := nb_eq hq.2
    obtain ⟨x, hx1, h⟩ := in_oI h
    have hl := (Lo_get hL hx1).1
    rw [nb_eq hq.1] at hl
    exact lv_iload hx hb hd hl (go h hL (cs1 rfl hsv))
  case iload_n n =>
    simp only [Bool.and_eq_true] at hq
    obtain rfl := nb_eq hq.2
    obtain ⟨x, hx1, h⟩ := in_oI h
    exact lv_iload_n hx hb hd (nb_eq hq.1).symm (Lo_get hL hx1).1 (go h hL (cs1 rfl hsv))
  case aload n =>
    simp only [Bool.and_eq_true] at hq
    obtain rfl := nb_eq hq.2
    obtain ⟨x, hx1, h⟩ := in_oR h
    obtain ⟨hl, hv⟩ := Lo_get hL hx1
    rw [nb_eq hq.1] at hl
    have g := go h hL (cs1 hv hsv)
    rw [List.map_cons] at g
    rcases va_null ad x with e | ⟨q, e⟩
    · rw [e] at hl g; exact lv_aloadN hx hb hd hl g
    · rw [e] at hl g; exact lv_aload hx hb hd hl g
  case aload_n n =>
    simp only [Bool.and_eq_true] at hq
    obtain rfl := nb_eq hq.2
    obtain ⟨x, hx1, h⟩ := in_oR h
    obtain ⟨hl, hv⟩ := Lo_get hL hx1
    have g := go h hL (cs1 hv hsv)
    rw [List.map_cons] at g
    rcases va_null ad x with e | ⟨q, e⟩
    · rw [e] at hl g; exact lv_aload_nN hx hb hd (nb_eq hq.1).symm hl g
    · rw [e] at hl g; exact lv_aload_n hx hb hd (nb_eq hq.1).symm hl g
  case istore n =>
    simp only [Bool.and_eq_true, decide_eq_true_eq] at hq
    obtain ⟨⟨⟨q1, q2⟩, q3⟩, q4⟩ := hq
    obtain rfl := nb_eq q2
    have hf := lf_spec q4
    obtain ⟨x, r, rfl, g1⟩ := in_I1 h
    obtain ⟨lv, hl1, hl2, hl3⟩ := hL
    rw [nb_eq q1] at g1 q3 hf
    exact lv_istore hx hb hd hl1 q3 rfl (fun ls' hl' => go g1 (Lo_set (w := .int x) _ hf hl2 hl3 (fun v e => by cases e; exact ⟨rfl, rfl⟩) rfl hl') (tl1 hsv))
  case istore_n n =>
    simp only [Bool.and_eq_true, decide_eq_true_eq] at hq
    obtain ⟨⟨⟨q1, q2⟩, q3⟩, q4⟩ := hq
    obtain rfl := nb_eq q2
    have hf := lf_spec q4
    obtain ⟨x, r, rfl, g1⟩ := in_I1 h
    obtain ⟨lv, hl1, hl2, hl3⟩ := hL
    exact lv_istore_n hx hb hd (nb_eq q1).symm hl1 q3 rfl (fun ls' hl' => go g1 (Lo_set (w := .int x) _ hf hl2 hl3 (fun v e => by cases e; exact ⟨rfl, rfl⟩) rfl hl') (tl1 hsv))
  case astore n =>
    simp only [Bool.and_eq_true, decide_eq_true_eq] at hq
    obtain ⟨⟨⟨q1, q2⟩, q3⟩, q4⟩ := hq
    obtain rfl := nb_eq q2
    have hf := lf_spec q4
    obtain ⟨x, r, rfl, g1⟩ := in_R1 h
    obtain ⟨lv, hl1, hl2, hl3⟩ := hL
    rw [nb_eq q1] at g1 q3 hf
    have hv := (List.forall_mem_cons.mp hsv).1
    rw [List.map_cons]
    rcases va_null ad x with e | ⟨q, e⟩
    · rw [e]
      exact lv_astoreN hx hb hd hl1 q3 rfl (fun ls' hl' => go g1 (Lo_set (w := .null) _ hf hl2 hl3 (fun v e2 => by cases e2; exact ⟨e.symm, hv⟩) rfl hl') (tl1 hsv))
    · rw [e]
      exact lv_astore hx hb hd hl1 q3 rfl (fun ls' hl' => go g1 (Lo_set (w := .ref q) _ hf hl2 hl3 (fun v e2 => by cases e2; exact ⟨e.symm, hv⟩) rfl hl') (tl1 hsv))
  case astore_n n =>
    simp only [Bool.and_eq_true, decide_eq_true_eq] at hq
    obtain ⟨⟨⟨q1, q2⟩, q3⟩, q4⟩ := hq
    obtain rfl := nb_eq q2
    have hf := lf_spec q4
    obtain ⟨x, r, rfl, g1⟩ := in_R1 h
    obtain ⟨lv, hl1, hl2, hl3⟩ := hL
    have hv := (List.forall_mem_cons.mp hsv).1
    rw [List.map_cons]
    rcases va_null ad x with e | ⟨q, e⟩
    · rw [e]
      exact lv_astore_nN hx hb hd (nb_eq q1).symm hl1 q3 rfl (fun ls' hl' => go g1 (Lo_set (w := .null) _ hf hl2 hl3 (fun v e2 => by cases e2; exact ⟨e.symm, hv⟩) rfl hl') (tl1 hsv))
    · rw [e]
      exact lv_astore_n hx hb hd (nb_eq q1).symm hl1 q3 rfl (fun ls' hl' => go g1 (Lo_set (w := .ref q) _ hf hl2 hl3 (fun v e2 => by cases e2; exact ⟨e.symm, hv⟩) rfl hl') (tl1 hsv))
  case iinc n d =>
    simp only [Bool.and_eq_true, decide_eq_true_eq] at hq
    obtain ⟨⟨⟨⟨q1, q2⟩, q3⟩, q4⟩, q5⟩ := hq
    obtain rfl := nb_eq q2
    obtain ⟨x, hx1, h⟩ := in_oI h
    obtain ⟨lv, hl1, hl2, hl3⟩ := id hL
    rw [nb_eq q1] at h hx1
    have hi : la[n]? = some (some (.int x)) := by
      rw [List.getD_eq_getElem?_getD] at hx1
      cases e : la[n]? with
      | none => rw [e] at hx1; cases hx1
      | some w => rw [e] at hx1; exact congrArg some hx1
    obtain ⟨j, hj⟩ := List.getElem?_of_mem (hl3 n _ hi).1
    exact lv_iinc hx hb hd hl1 hj (by rw [q4]) q3 rfl (fun ls' hl' => go h (Lo_set (w := .int (x + cst)) _ (lf_spec q5) hl2 hl3 (fun v e => by cases e; exact ⟨rfl, rfl⟩) rfl hl') hsv)
  case ldc2_w n =>
    simp only [Bool.and_eq_true, decide_eq_true_eq, atM] at hq
    obtain rfl := nb_eq hq.2
    exact lv_ldc2 hx hb hown (hts _ (List.mem_of_getElem? hq.1) rfl) hd (go h hL (cs1 rfl hsv))
  case lload n =>
    simp only [Bool.and_eq_true] at hq
    obtain rfl := nb_eq hq.2
    obtain ⟨x, hx1, h⟩ := in_oL h
    have hl := (Lo_get hL hx1).1
    rw [nb_eq hq.1] at hl
    exact lv_lload hx hb hd hl (go h hL (cs1 rfl hsv))
  case lload_n n =>
    simp only [Bool.and_eq_true] at hq
    obtain rfl := nb_eq hq.2
    obtain ⟨x, hx1, h⟩ := in_oL h
    exact lv_lload_n hx hb hd (nb_eq hq.1).symm (Lo_get hL hx1).1 (go h hL (cs1 rfl hsv))
  case lstore n =>
    simp only [Bool.and_eq_true, Bool.or_eq_true, Bool.not_eq_true', List.contains_eq_mem, decide_eq_false_iff_not, decide_eq_true_eq] at hq
    obtain ⟨⟨⟨⟨q1, q2⟩, q3⟩, q4⟩, q5⟩ := hq
    obtain rfl := nb_eq q2
    have hf : ∀ j, j + 1 = gaM a 0 → ¬ j ∈ llM k := by
      intro j e
      rcases q5 with q5 | q5
      · exact absurd (nb_eq q5) (by omega)
      · rw [← e] at q5
        exact q5
    obtain ⟨x, r, rfl, g1⟩ := in_L1 h
    obtain ⟨lv, hl1, hl2, hl3⟩ := hL
    rw [nb_eq q1] at g1 q3 q4 hf
    exact lv_lstore hx hb hd hl1 q3 rfl (fun ls' hl' => go g1 (Lo_setL q4 hf hl2 hl3 hl') (tl1 hsv))
  case lstore_n n =>
    simp only [Bool.and_eq_true, Bool.or_eq_true, Bool.not_eq_true', List.contains_eq_mem, decide_eq_false_iff_not, decide_eq_true_eq] at hq
    obtain ⟨⟨⟨⟨q1, q2⟩, q3⟩, q4⟩, q5⟩ := hq
    obtain rfl := nb_eq q2
    have hf : ∀ j, j + 1 = gaM a 0 → ¬ j ∈ llM k := by
      intro j e
      rcases q5 with q5 | q5
      · exact absurd (nb_eq q5) (by omega)
      · rw [← e] at q5
        exact q5
    obtain ⟨x, r, rfl, g1⟩ := in_L1 h
    obtain ⟨lv, hl1, hl2, hl3⟩ := hL
    exact lv_lstore_n hx hb hd (nb_eq q1).symm hl1 q3 rfl (fun ls' hl' => go g1 (Lo_setL q4 hf hl2 hl3 hl') (tl1 hsv))
  case ladd =>
    simp only [Bool.and_eq_true] at hq
    obtain rfl := nb_eq hq.2
    obtain ⟨x, y, r, rfl, g1⟩ := in_L2 h
    exact lv_ladd hx hb hd (go g1 hL (cs1 rfl (tl1 (tl1 hsv))))
  case lmul =>
    simp only [Bool.and_eq_true] at hq
    obtain rfl := nb_eq hq.2
    obtain ⟨x, y, r, rfl, g1⟩ := in_L2 h
    exact lv_lmul hx hb hd (go g1 hL (cs1 rfl (tl1 (tl1 hsv))))
  case iadd =>
    simp only [Bool.and_eq_true] at hq
    obtain rfl := nb_eq hq.2
    obtain ⟨x, y, r, rfl, g1⟩ := in_I2 h
    exact lv_iadd hx hb hd (go g1 hL (cs1 rfl (tl1 (tl1 hsv))))
  case isub =>
    simp only [Bool.and_eq_true] at hq
    obtain rfl := nb_eq hq.2
    obtain ⟨x, y, r, rfl, g1⟩ := in_I2 h
    exact lv_isub hx hb hd (go g1 hL (cs1 rfl (tl1 (tl1 hsv))))
  case imul =>
    simp only [Bool.and_eq_true] at hq
    obtain rfl := nb_eq hq.2
    obtain ⟨x, y, r, rfl, g1⟩ := in_I2 h
    exact lv_imul hx hb hd (go g1 hL (cs1 rfl (tl1 (tl1 hsv))))
  case iand =>
    simp only [Bool.and_eq_true] at hq
    obtain rfl := nb_eq hq.2
    obtain ⟨x, y, r, rfl, g1⟩ := in_I2 h
    exact lv_iand hx hb hd (go g1 hL (cs1 rfl (tl1 (tl1 hsv))))
  case ishl =>
    simp only [Bool.and_eq_true] at hq
    obtain rfl := nb_eq hq.2
    obtain ⟨x, y, r, rfl, g1⟩ := in_I2 h
    exact lv_ishl hx hb hd (go g1 hL (cs1 rfl (tl1 (tl1 hsv))))
  case ishr =>
    simp only [Bool.and_eq_true] at hq
    obtain rfl := nb_eq hq.2
    obtain ⟨x, y, r, rfl, g1⟩ := in_I2 h
    exact lv_ishr hx hb hd (go g1 hL (cs1 rfl (tl1 (tl1 hsv))))
  case idiv =>
    simp only [Bool.and_eq_true] at hq
    obtain rfl := nb_eq hq.2
    obtain ⟨x, y, r, rfl, g1⟩ := in_I2 h
    by_cases h0 : y = 0
    · rw [if_pos h0] at g1; cases g1
    · rw [if_neg h0] at g1
      exact lv_idiv hx hb hd h0 (go g1 hL (cs1 rfl (tl1 (tl1 hsv))))
  case irem =>
    simp only [Bool.and_eq_true] at hq
    obtain rfl := nb_eq hq.2
    obtain ⟨x, y, r, rfl, g1⟩ := in_I2 h
    by_cases h0 : y = 0
    · rw [if_pos h0] at g1; cases g1
    · rw [if_neg h0] at g1
      exact lv_irem hx hb hd h0 (go g1 hL (cs1 rfl (tl1 (tl1 hsv))))
  case ineg =>
    simp only [Bool.and_eq_true] at hq
    obtain rfl := nb_eq hq.2
    obtain ⟨x, r, rfl, g1⟩ := in_I1 h
    exact lv_ineg hx hb hd (go g1 hL (cs1 rfl (tl1 hsv)))
  case i2l =>
    simp only [Bool.and_eq_true] at hq
    obtain rfl := nb_eq hq.2
    obtain ⟨x, r, rfl, g1⟩ := in_I1 h
    exact lv_i2l hx hb hd rfl (go g1 hL (cs1 rfl (tl1 hsv)))
  case i2c =>
    simp only [Bool.and_eq_true] at hq
    obtain rfl := nb_eq hq.2
    obtain ⟨x, r, rfl, g1⟩ := in_I1 h
    exact lv_i2c hx hb hd rfl (go g1 hL (cs1 rfl (tl1 hsv)))
  case lcmp =>
    simp only [Bool.and_eq_true] at hq
    obtain rfl := nb_eq hq.2
    obtain ⟨x, y, r, rfl, g1⟩ := in_L2 h
    exact W.lcmp hx hb hd (go g1 hL (cs1 rfl (tl1 (tl1 hsv))))
  case ifCond op off =>
    simp only [Bool.and_eq_true, tgM, decide_eq_true_eq] at hq
    obtain ⟨ht, q2⟩ := hq
    obtain rfl := nb_eq q2
    cases op <;> obtain ⟨x, r, rfl, g1⟩ := in_I1 h
    · exact lv_if_eq hx hb hd ht (fun q => by rw [if_pos q] at g1; exact go g1 hL (tl1 hsv)) (fun q => by rw [if_neg q] at g1; exact go g1 hL (tl1 hsv))
    · exact lv_if_ne hx hb hd ht (fun q => by rw [if_neg q] at g1; exact go g1 hL (tl1 hsv)) (fun q => by rw [if_pos q] at g1; exact go g1 hL (tl1 hsv))
    · exact lv_if_lt hx hb hd ht (fun q => by rw [if_pos q] at g1; exact go g1 hL (tl1 hsv)) (fun q => by rw [if_neg q] at g1; exact go g1 hL (tl1 hsv))
    · exact lv_if_ge hx hb hd ht (fun q => by rw [if_neg (i32_le q)] at g1; exact go g1 hL (tl1 hsv)) (fun q => by rw [if_pos (i32_nle q)] at g1; exact go g1 hL (tl1 hsv))
    · exact lv_if_gt hx hb hd ht (fun q => by rw [if_pos q] at g1; exact go g1 hL (tl1 hsv)) (fun q => by rw [if_neg q] at g1; exact go g1 hL (tl1 hsv))
    · exact lv_if_le hx hb hd ht (fun q => by rw [if_neg (i32_le q)] at g1; exact go g1 hL (tl1 hsv)) (fun q => by rw [if_pos (i32_nle q)] at g1; exact go g1 hL (tl1 hsv))
  case if_icmp op off =>
    simp only [Bool.and_eq_true, tgM, decide_eq_true_eq] at hq
    obtain ⟨ht, q2⟩ := hq
    obtain rfl := nb_eq q2
    cases op <;> obtain ⟨x, y, r, rfl, g1⟩ := in_I2 h
    · exact lv_icmp_eq hx hb hd ht (fun q => by rw [if_pos q] at g1; exact go g1 hL (tl1 (tl1 hsv))) (fun q => by rw [if_neg q] at g1; exact go g1 hL (tl1 (tl1 hsv)))
    · exact lv_icmp_ne hx hb hd ht (fun q => by rw [if_neg q] at g1; exact go g1 hL (tl1 (tl1 hsv))) (fun q => by rw [if_pos q] at g1; exact go g1 hL (tl1 (tl1 hsv)))
    · exact lv_icmp_lt hx hb hd ht (fun q => by rw [if_pos q] at g1; exact go g1 hL (tl1 (tl1 hsv))) (fun q => by rw [if_neg q] at g1; exact go g1 hL (tl1 (tl1 hsv)))
    · exact lv_icmp_ge hx hb hd ht (fun q => by rw [if_neg (i32_le q)] at g1; exact go g1 hL (tl1 (tl1 hsv))) (fun q => by rw [if_pos (i32_nle q)] at g1; exact go g1 hL (tl1 (tl1 hsv)))
    · exact lv_icmp_gt hx hb hd ht (fun q => by rw [if_pos q] at g1; exact go g1 hL (tl1 (tl1 hsv))) (fun q => by rw [if_neg q] at g1; exact go g1 hL (tl1 (tl1 hsv)))
    · exact lv_icmp_le hx hb hd ht (fun q => by rw [if_neg (i32_le q)] at g1; exact go g1 hL (tl1 (tl1 hsv))) (fun q => by rw [if_pos (i32_nle q)] at g1; exact go g1 hL (tl1 (tl1 hsv)))
  case goto off =>
    simp only [Bool.and_eq_true, tgM, decide_eq_true_eq] at hq
    obtain ⟨ht, q2⟩ := hq
    obtain rfl := nb_eq q2
    exact lv_goto hx hb hd ht (go h hL hsv)
  case getfield n =>
    simp only [Bool.and_eq_true, decide_eq_true_eq, flI] at hq
    obtain ⟨⟨⟨⟨⟨q1, q2⟩, q3⟩, q4⟩, q5⟩, q6⟩ := hq
    obtain rfl := nb_eq q4
    obtain ⟨v, r, rfl, g1⟩ := in_R1 h
    obtain ⟨htk, g1⟩ := in_no g1
    obtain ⟨k1, k2, k3⟩ := tk_kind (κ := 1) hT (by rw [htk]) (Nat.le_refl 1)
    have k8 := k3 (by decide)
    have hfl := flL_ok _ (List.mem_of_getElem? q6)
    have hpt := cs_at (c := gC G) (ad := ad) k8 k1
    rw [ce_obj htk] at hpt
    have hval := Ru_get (f := fun k => bif Nat.beq (fkN (gaM a 0) k) 1 then vaM ad (.ref (prM σ v k)) else .int (rdM σ v k)) q2
    have g := go g1 hL (cs1 (fv_vk (hT.2.2.2.1 v (gaM a 1))) (tl1 hsv))
    rw [List.map_cons, fv_va, q3] at g
    rw [List.map_cons, va_nz k2]
    rcases (show gaM a 3 = 0 ∨ gaM a 3 = 1 by omega) with e3 | e3
    · rw [e3] at hfl
      have hw : (Cond.fieldLink (owM k) n (fT (gaM a 0) (gaM a 1)).1 (fT (gaM a 0) (gaM a 1)).2.1 (fT (gaM a 0) (gaM a 1)).2.2.1).before args s = true := by rw [hmt.1]; exact hts _ hfl rfl
      exact va_get (D := gD G) (cl := vwCl) (C := (clM (gaM a 0)).1) (T := (clM (gaM a 0)).2.1) (N := (clM (gaM a 0)).2.2) hx hb hts2 (cl_ws _ q1) hown hK2 hP (v - 8) hpt (cl_at q1) (gaM a 1) q2 hw (fun _ z => z) hval hd g
    · rw [e3] at hfl
      have hw : (Cond.fieldLinkNest (owM k) n (fT (gaM a 0) (gaM a 1)).1 (fT (gaM a 0) (gaM a 1)).2.1 (fT (gaM a 0) (gaM a 1)).2.2.1 RX4).before args s = true := by rw [hmt.1]; exact va_Nw.use rfl (hE1 _ hfl rfl)
      exact va_getN (D := gD G) (cl := vwCl) (C := (clM (gaM a 0)).1) (T := (clM (gaM a 0)).2.1) (N := (clM (gaM a 0)).2.2) hx hb hts2 (cl_ws _ q1) hown hK2 hP (v - 8) hpt (cl_at q1) (gaM a 1) q2 hw (fun _ z => z) hval hd g
  case iaload =>
    simp only [Bool.and_eq_true] at hq
    obtain rfl := nb_eq hq.2
    obtain ⟨i, v, r, rfl, g1⟩ := in_IR h
    obtain ⟨⟨hk, hi⟩, g1⟩ := in_no g1
    obtain ⟨k1, k2, -⟩ := tk_kind (κ := 2) hT hk (by decide)
    have g := go g1 hL (cs1 rfl (tl1 (tl1 hsv)))
    rw [List.map_cons, List.map_cons, va_nz k2]
    rcases Nat.lt_or_ge v 8 with k8 | k8
    · obtain ⟨t1, t2⟩ := hT.2.2.2.2 v (by omega) k8
      rw [hAd v (by omega) k8]
      have hi' : vp_in i (gN G v) := by rw [t1] at hi; exact hi
      exact va_ti hx hb (hT2 v (by omega) k8) hS hi' (by rw [← t2]; rfl) hd g
    · have hpt := cs_at (c := gC G) (ad := ad) k8 k1
      rw [ce_int hk (Or.inl rfl)] at hpt
      exact va_iald hx hb hK2 hP (v - 8) 0 hpt (ty_at _).1 hi hd g
  case baload =>
    simp only [Bool.and_eq_true] at hq
    obtain rfl := nb_eq hq.2
    obtain ⟨i, v, r, rfl, g1⟩ := in_IR h
    obtain ⟨⟨hk, hi⟩, g1⟩ := in_no g1
    obtain ⟨k1, k2, k3⟩ := tk_kind (κ := 3) hT hk (by decide)
    have g := go g1 hL (cs1 rfl (tl1 (tl1 hsv)))
    rw [List.map_cons, List.map_cons, va_nz k2]
    have hpt := cs_at (c := gC G) (ad := ad) (k3 (by decide)) k1
    rw [ce_int hk (Or.inr (Or.inl rfl))] at hpt
    exact va_zald hx hb hK2 hP (v - 8) 1 hpt (ty_at _).2.1 hi hd g
  case aaload =>
    simp only [Bool.and_eq_true] at hq
    obtain rfl := nb_eq hq.2
    obtain ⟨i, v, r, rfl, g1⟩ := in_IR h
    obtain ⟨⟨hk, hi⟩, g1⟩ := in_no g1
    obtain ⟨k1, k2, k3⟩ := tk_kind (κ := 6) hT hk (by decide)
    have g := go g1 hL (cs1 (v := .ref _) (decide_eq_true (hT.2.2.2.1 v _)) (tl1 (tl1 hsv)))
    rw [List.map_cons, List.map_cons, va_nz k2]
    have hpt := cs_at (c := gC G) (ad := ad) (k3 (by decide)) k1
    rw [ce_ref hk] at hpt
    exact va_aldq hx hb hK2 hP (v - 8) 3 hpt (ty_at _).2.2.2 hi hd g
  case arraylength =>
    simp only [Bool.and_eq_true] at hq
    obtain rfl := nb_eq hq.2
    obtain ⟨v, r, rfl, g1⟩ := in_R1 h
    obtain ⟨hk, g1⟩ := in_no g1
    obtain ⟨k1, k2, -⟩ := tk_kind (κ := 2) hT hk (by decide)
    have g := go g1 hL (cs1 rfl (tl1 hsv))
    rw [List.map_cons, va_nz k2]
    rcases Nat.lt_or_ge v 8 with k8 | k8
    · obtain ⟨t1, t2⟩ := hT.2.2.2.2 v (by omega) k8
      rw [hAd v (by omega) k8]
      exact va_tlen hx hb (hT2 v (by omega) k8) hS (by rw [t1]) hd g
    · have hpt := cs_at (c := gC G) (ad := ad) k8 k1
      rw [ce_int hk (Or.inl rfl)] at hpt
      exact va_alen hx hb hK2 hP (v - 8) 0 hpt (ty_at _).1 rfl hd g
  case dup =>
    simp only [Bool.and_eq_true] at hq
    obtain rfl := nb_eq hq.2
    cases sa with
    | nil => cases h
    | cons v r =>
      cases e : isOne v with
      | false => simp only [stM, e] at h; cases h
      | true =>
        simp only [stM, e] at h
        obtain ⟨h1, h2⟩ := List.forall_mem_cons.mp hsv
        exact lv_dup hx hb hd (va_cat1 e) (go h hL (cs1 h1 (cs1 h1 h2)))
  case pop =>
    simp only [Bool.and_eq_true] at hq
    obtain rfl := nb_eq hq.2
    cases sa with
    | nil => cases h
    | cons v r =>
      cases e : isOne v with
      | false => simp only [stM, e] at h; cases h
      | true =>
        simp only [stM, e] at h
        exact lv_pop hx hb hd (va_cat1 e) (go h hL (tl1 hsv))
  case dup2 =>
    simp only [Bool.and_eq_true] at hq
    obtain rfl := nb_eq hq.2
    cases sa with
    | nil => cases h
    | cons v r => cases r with
      | nil => cases h
      | cons w r =>
        cases e : isOne v with
        | false => simp only [stM, e, Bool.false_and] at h; cases h
        | true => cases e2 : isOne w with
          | false => simp only [stM, e, e2, Bool.and_false] at h; cases h
          | true =>
            simp only [stM, e, e2, Bool.and_self] at h
            obtain ⟨h1, h2⟩ := List.forall_mem_cons.mp hsv
            obtain ⟨h3, h4⟩ := List.forall_mem_cons.mp h2
            exact lv_dup2_11 hx hb hd (va_cat1 e) (va_cat1 e2) (go h hL (cs1 h1 (cs1 h3 (cs1 h1 (cs1 h3 h4)))))
  all_goals first
    | exact absurd trivial hsp
    | cases h
