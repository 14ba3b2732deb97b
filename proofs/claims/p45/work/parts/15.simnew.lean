theorem nw_tk (σ : Mem) (κ n u : Nat) : tkM (nwM σ κ n) u = if u = nxM σ then (κ, n) else tkM σ u := rfl
theorem nw_rd (σ : Mem) (κ n u i : Nat) : rdM (nwM σ κ n) u i = if u = nxM σ then 0 else rdM σ u i := rfl
theorem nw_pr (σ : Mem) (κ n u i : Nat) : prM (nwM σ κ n) u i = if u = nxM σ then 0 else prM σ u i := rfl
theorem nw_nx (σ : Mem) (κ n : Nat) : nxM (nwM σ κ n) = nxM σ + 1 := rfl
theorem Rp_new {G : GlM} {ad : Nat → Nat} {σ : Mem} {H H1 : Heap} {κ n q : Nat} {e : va_E} (h : RpM G ad σ H) (hk : 1 ≤ κ)
    (he : ceK (gC G) (fun u => if u = nxM σ then q else ad u) (fun _ => 0) (fun _ => 0) κ n = e) (hP : va_P (gD G) vwCl (csM (gC G) ad σ ++ [(q, e)]) H1) (hD : va_D (gU G) (csM (gC G) ad σ ++ [(q, e)])) :
    RpM G (fun u => if u = nxM σ then q else ad u) (nwM σ κ n) H1 := by
  obtain ⟨-, -, ⟨a1, a2, a3, a4, a5⟩, a6⟩ := h
  have hlt : ∀ u, u < nxM σ → u ≠ nxM σ := fun u hu => by omega
  have e1 := cs_new (c := gC G) (ad := ad) (ad' := fun u => if u = nxM σ then q else ad u) (σ := σ) (σ' := nwM σ κ n) a1 rfl (fun u hu => by rw [nw_tk, if_neg (hlt u hu)]) (fun u j hu => by rw [nw_rd, if_neg (hlt u hu)]) (fun u j hu => by rw [nw_pr, if_neg (hlt u hu)]) a4 (fun u hu => if_neg (hlt u hu))
  have e2 : ceM (gC G) (fun u => if u = nxM σ then q else ad u) (nwM σ κ n) (nxM σ) = e := by
    unfold ceM
    rw [nw_tk, if_pos rfl, show rdM (nwM σ κ n) (nxM σ) = fun _ => 0 from funext fun i => by rw [nw_rd, if_pos rfl], show prM (nwM σ κ n) (nxM σ) = fun _ => 0 from funext fun i => by rw [nw_pr, if_pos rfl]]
    exact he
  rw [e2] at e1
  rw [if_pos rfl] at e1
  refine ⟨by rw [e1]; exact hP, by rw [e1]; exact hD, ⟨by rw [nw_nx]; omega, fun v hv => ?_, ?_, fun v j => ?_, fun v p1 p2 => ?_⟩, fun v p1 p2 => ?_⟩
  · rw [nw_nx] at hv
    rw [nw_tk, if_neg (by omega)]; exact a2 v (by omega)
  · rw [nw_tk, if_neg (by omega)]; exact a3
  · rw [nw_nx, nw_pr]; split
    · omega
    · have := a4 v j; omega
  · rw [nw_tk, if_neg (by omega)]
    exact ⟨(a5 v p1 p2).1, fun j => by rw [nw_rd, if_neg (by omega)]; exact (a5 v p1 p2).2 j⟩
  · show (if v = nxM σ then q else ad v) = _
    rw [if_neg (by omega)]; exact a6 v p1 p2
theorem cl_wd : ∀ ci, ci < 5 → Cond.instantiable (clM ci).1 (clM ci).2.2 ∈ lw_tbl ∧ Cond.initialized (clM ci).1 ∈ lw_tbl := by
  intro ci h
  rcases (show ci = 0 ∨ ci = 1 ∨ ci = 2 ∨ ci = 3 ∨ ci = 4 by omega) with rfl | rfl | rfl | rfl | rfl <;> exact ⟨by decide +kernel, by decide +kernel⟩
theorem ar_wd : Cond.arrayClass .int ∈ lw_tbl ∧ Cond.arrayClass .boolean ∈ lw_tbl ∧ Cond.arrayClass .char ∈ lw_tbl := ⟨by decide +kernel, by decide +kernel, by decide +kernel⟩
theorem sw_find {pc d : Nat} {x : Int32} {f : Nat → Option OutM} {o : OutM} {dflt : Int} (hd : (pc : Int) + dflt = (d : Int)) : ∀ (l : List Nat) (ps : List (Int × Int)), swOk pc l ps = true → swM x d f l = some o → ∃ (t : Nat) (off : Int), Op.lookupswitch.offset ps dflt x.toInt = off ∧ (pc : Int) + off = (t : Int) ∧ f t = some o
  | [], [], _, h => ⟨d, dflt, rfl, hd, h⟩
  | [], _ :: _, h, _ => by simp [swOk] at h
  | [_], [], h, _ => by simp [swOk] at h
  | [_], _ :: _, h, _ => by simp [swOk] at h
  | _ :: _ :: _, [], h, _ => by simp [swOk] at h
  | k :: t :: r, (y, o') :: ps, h, g => by
    simp only [swOk, Bool.and_eq_true, decide_eq_true_eq] at h
    obtain ⟨⟨⟨h1, h2⟩, h3⟩, h4⟩ := h
    have hk : (Int32.ofNat k).toInt = y := by rw [h2]; exact nI_toInt (by omega)
    unfold swM at g
    by_cases e : x = Int32.ofNat k
    · rw [if_pos e] at g
      exact ⟨t, o', by rw [Op.lookupswitch.offset_cons, if_pos (by rw [e, hk])], h3, g⟩
    · rw [if_neg e] at g
      obtain ⟨t', off, q1, q2, q3⟩ := sw_find hd r ps h4 g
      exact ⟨t', off, by rw [lv_osw e hk]; exact q1, q2, q3⟩
theorem tb_off (os : List Int) (d : Int) : ∀ (n : Nat) (x : Int), Op.lookupswitch.offset (((List.range' n os.length).map (fun q : Nat => (q : Int))).zip os) d x = if (n : Int) ≤ x ∧ x < n + os.length then os.getD (x - n).toNat 0 else d := by
  induction os with
  | nil => intro n x; simp only [List.length_nil, List.range'_zero, List.map_nil, List.zip_nil_left]; rw [if_neg (by simp <;> omega)]; rfl
  | cons a os ih =>
    intro n x
    simp only [List.length_cons, List.range'_succ, List.map_cons, List.zip_cons_cons]
    rw [Op.lookupswitch.offset_cons]
    by_cases e : (n : Int) = x
    · rw [if_pos e, if_pos (by omega)]
      have : (x - n).toNat = 0 := by omega
      rw [this]; rfl
    · rw [if_neg e, ih (n + 1) x]
      by_cases c : ((n + 1 : Nat) : Int) ≤ x ∧ x < ((n + 1 : Nat) : Int) + os.length
      · rw [if_pos c, if_pos (by omega)]
        have : (x - n).toNat = (x - ((n + 1 : Nat) : Int)).toNat + 1 := by omega
        rw [this]; rfl
      · rw [if_neg c, if_neg (by omega)]
def pnM (ic : IcM) : Prop := match ic.1 with
  | .newarray _ | .anewarray _ | .tableswitch _ _ _ _ | .ireturn | .lreturn | .return_ | .new _ => True
  | _ => False
set_option maxHeartbeats 8000000 in
theorem sim_c {G : GlM} {l : Launch} {k : Nat} {ic : IcM} {fr : FrM} {σ : Mem} {o : OutM} {Φ : Nat → List Value → Mem → Option OutM} {K : FrM → Mem → Option OutM}
    (hmt : MtP k) (hK : ∀ fr' σ', K fr' σ' = some o → WsM G l k fr' σ' o) (hok : okM k fr.1 ic = true) (hsp : pnM ic) (h : stM Φ K k ic fr σ = some o) : WsM G l k fr σ o := by
  obtain ⟨pc, la, sa, kc, ks⟩ := fr
  obtain ⟨i, len, a, cst⟩ := ic
  intro p e R s m args below meth c ad H locs Q ls st hA hR hS hL hsk hX
  obtain ⟨rfl, hsv⟩ := hsk
  obtain ⟨⟨hx, hb, hml, hrt, hlk, hnm, hown⟩, hts, hE, hr1, hr2, hr3, hr4⟩ := id hA
  obtain ⟨hP, hD, hT, hAd⟩ := id hR
  obtain ⟨hE1, hK2, hT2, hB0, hAO⟩ := id hE
  have hts2 : ∀ w ∈ lw_tbl.filter goodWord, w.before args s = true := fun w hw => hts w (List.mem_filter.mp hw).1 (List.mem_filter.mp hw).2
  have hok0 := hok
  unfold okM at hok
  dsimp only at hok
  rw [Bool.and_eq_true] at hok
  obtain ⟨hd, hq⟩ := hok
  replace hd := of_decide_eq_true hd
  have tl1 : ∀ {v : Value} {r : List Value}, (∀ w ∈ v :: r, vkM (nxM σ) w = true) → ∀ w ∈ r, vkM (nxM σ) w = true := fun h => (List.forall_mem_cons.mp h).2
  have hUA : ∀ q : Nat, s.heap.size ≤ q → gU G q := fun q hq => Nat.le_trans hB0 hq
  have go : ∀ {pc' : Nat} {sa' : List Value}, K (pc', la, sa', kc, ks) σ = some o → (∀ v ∈ sa', vkM (nxM σ) v = true) → W p l e R s m args below meth c H locs kc ks Q (F0 m pc' ls (sa'.map (vaM ad))) :=
    fun h h3 => hK _ _ h p e R s m args below meth c ad _ _ Q _ _ hA hR hS hL ⟨rfl, h3⟩ hX
  have gn : ∀ {pc' κ n q kc' ks' : Nat} {r : List Value} {H1 : Heap} {ex : va_E}, K (pc', la, .ref (nxM σ) :: r, kc', ks') (nwM σ κ n) = some o → 1 ≤ κ → (∀ v ∈ r, vkM (nxM σ) v = true) → ceK (gC G) (fun u => if u = nxM σ then q else ad u) (fun _ => 0) (fun _ => 0) κ n = ex → va_P (gD G) vwCl (csM (gC G) ad σ ++ [(q, ex)]) H1 → va_D (gU G) (csM (gC G) ad σ ++ [(q, ex)]) → va_S (gU G) s.heap H1 locs →
      W p l e R s m args below meth c H1 locs kc' ks' Q (F0 m pc' ls (.ref q :: r.map (vaM ad))) := by
    intro pc' κ n q kc' ks' r H1 ex h hk hr he p1 d1 s1
    have h8 : 8 ≤ nxM σ := hT.1
    have hag : ∀ u, u < nxM σ → (fun u => if u = nxM σ then q else ad u) u = ad u := fun u hu => if_neg (by omega)
    obtain ⟨e1, e2⟩ := Sk_ad (n' := nxM σ + 1) (ad' := fun u => if u = nxM σ then q else ad u) hr (Nat.le_succ _) hag
    have g := hK _ _ h p e R s m args below meth c (fun u => if u = nxM σ then q else ad u) H1 locs Q ls _ hA (Rp_new hR hk he p1 d1) s1 (Lo_ad hL (Nat.le_succ _) hag) ⟨rfl, List.forall_mem_cons.mpr ⟨decide_eq_true (Nat.lt_succ_self _), e2⟩⟩ (Xi_mono hX (Nat.le_succ _) hag)
    rw [List.map_cons, ← e1, va_nz (by omega)] at g
    dsimp only at g
    rw [if_pos rfl] at g
    exact g
  cases i
  case ireturn =>
    simp only [Bool.and_eq_true, Bool.or_eq_true, decide_eq_true_eq] at hq
    obtain ⟨⟨⟨q1, q2⟩, q3⟩, q4⟩ := hq
    obtain rfl := nb_eq q3
    rcases sa with - | ⟨v, r⟩
    · cases h
    · rcases r with - | ⟨w, r⟩
      · cases v <;> first | cases h | skip
        case int x =>
          obtain ⟨⟨g1, g2⟩, h⟩ := in_no (c := kc ≤ gaM a 0 ∧ ks ≤ gaM a 1) h
          have key : (rtM k = some .int ∨ (rtM k = some .boolean ∧ (x = 0 ∨ x = 1))) ∧ some ((.inl (some (.int x)), σ) : OutM) = some o := by
            rcases q4 with ⟨e1, e2⟩ | ⟨e1, e2⟩
            · rw [e1] at h; exact ⟨Or.inl e2, h⟩
            · rw [e1] at h
              obtain ⟨h1, h2⟩ := in_no (c := x = 0 ∨ x = 1) h
              exact ⟨Or.inr ⟨e2, h1⟩, h2⟩
          obtain ⟨k1, k2⟩ := key
          obtain rfl := Option.some.inj k2
          exact hX ad H locs kc ks pc ls (fun _ _ => rfl) (Nat.le_refl _) hR hS (by rw [← q1]; exact g1) (by rw [← q2]; exact g2) ⟨hd, k1⟩ rfl
      · cases v <;> cases h
  case lreturn =>
    simp only [Bool.and_eq_true, Bool.or_eq_true, decide_eq_true_eq] at hq
    obtain ⟨⟨⟨q1, q2⟩, q3⟩, q4⟩ := hq
    obtain rfl := nb_eq q3
    rcases sa with - | ⟨v, r⟩
    · cases h
    · rcases r with - | ⟨w, r⟩
      · cases v <;> first | cases h | skip
        case long x =>
          obtain ⟨⟨g1, g2⟩, h⟩ := in_no (c := kc ≤ gaM a 0 ∧ ks ≤ gaM a 1) h
          obtain rfl := Option.some.inj h
          exact hX ad H locs kc ks pc ls (fun _ _ => rfl) (Nat.le_refl _) hR hS (by rw [← q1]; exact g1) (by rw [← q2]; exact g2) ⟨hd, q4⟩ rfl
      · cases v <;> cases h
  case return_ =>
    simp only [Bool.and_eq_true, Bool.or_eq_true, decide_eq_true_eq] at hq
    obtain ⟨⟨⟨q1, q2⟩, q3⟩, q4⟩ := hq
    obtain rfl := nb_eq q3
    rcases sa with - | ⟨v, r⟩
    · obtain ⟨⟨g1, g2⟩, h⟩ := in_no (c := kc ≤ gaM a 0 ∧ ks ≤ gaM a 1) h
      obtain rfl := Option.some.inj h
      exact hX ad H locs kc ks pc ls (fun _ _ => rfl) (Nat.le_refl _) hR hS (by rw [← q1]; exact g1) (by rw [← q2]; exact g2) ⟨hd, q4⟩ trivial
    · cases h
  case tableswitch d lo hi os =>
    simp only [Bool.and_eq_true, tgM, decide_eq_true_eq] at hq
    obtain ⟨⟨⟨ht, rfl⟩, q2⟩, q3⟩ := hq
    obtain ⟨x, r, rfl, g1⟩ := in_I1 h
    obtain ⟨t, off, w1, w2, w3⟩ := sw_find ht _ _ q3 g1
    have w4 := tb_off os.toList d 0 x.toInt
    rw [List.range_eq_range', show os.size = os.toList.length from rfl] at w1
    rw [w1] at w4
    by_cases c1 : x.toInt < 0 ∨ hi < x.toInt
    · rw [if_neg (by have : os.toList.length = os.size := rfl; omega)] at w4
      subst w4
      exact lv_tableOut hx hb hd c1 w2 (go w3 (tl1 hsv))
    · have hsz : os.toList.length = os.size := rfl
      rw [if_pos (by omega)] at w4
      refine lv_tableIn hx hb hd (by omega) (by omega) (off := off) ?_ w2 (go w3 (tl1 hsv))
      rw [w4]
      have hlt : (x.toInt - 0).toNat < os.size := by omega
      rw [Array.getElem?_eq_getElem hlt, List.getD_eq_getElem?_getD, Array.getElem?_toList, show (x.toInt - ((0 : Nat) : Int)).toNat = (x.toInt - 0).toNat from rfl, Array.getElem?_eq_getElem hlt]
      rfl
  case new n =>
    simp only [Bool.and_eq_true, decide_eq_true_eq] at hq
    obtain ⟨⟨⟨q1, q2⟩, q3⟩, q4⟩ := hq
    obtain rfl := nb_eq q1
    obtain ⟨⟨g1, g2⟩, h⟩ := in_no h
    simp only [Bool.and_eq_true, decide_eq_true_eq, atM] at q4
    obtain ⟨⟨j1, j2⟩, j3⟩ := q4
    obtain ⟨w1, w2⟩ := cl_wd _ j1
    refine va_new (C := (clM (gaM a 1)).1) (T := (clM (gaM a 1)).2.1) (N := (clM (gaM a 1)).2.2) (ci := gaM a 1) (fs := (List.range (clM (gaM a 1)).2.2).map fun k => bif Nat.beq (fkN (gaM a 1) k) 1 then Value.null else .int 0) hx hb hts2 (cl_ws _ j1) (tyN (gaM a 1)) (cl_ty _ j1) hown (hts _ (List.mem_of_getElem? j3) rfl) (hts _ w1 rfl) (hts _ w2 rfl) hK2 hP hD hS hUA (cl_at j1) ?_ (Nat.le_trans g1 (by rw [q2]; exact hr3)) (Nat.le_trans (by rw [← j2]; exact g2) (by rw [q3]; exact hr4)) hd (fun q H1 p1 d1 s1 => ?_)
    · intro j hj
      obtain ⟨c0, c2, c1, c3⟩ := cl_kind _ j1 _ hj
      unfold vp_V
      rw [List.getD_eq_getElem?_getD, Ru_get (f := fun k => bif Nat.beq (fkN (gaM a 1) k) 1 then Value.null else .int 0) hj]
      rcases (show fkN (gaM a 1) j = 0 ∨ fkN (gaM a 1) j = 1 ∨ fkN (gaM a 1) j = 2 by omega) with e | e | e
      · rw [c0 e]; simp only [e]; rfl
      · simp only [e]; rcases c1 e with ⟨C, e2⟩ | ⟨t, e2⟩ <;> rw [e2] <;> rfl
      · rw [c2 e]; simp only [e]; rfl
    · rw [← j2]
      exact gn h (Nat.le_refl 1) hsv (by rfl) p1 d1 s1
  case newarray t =>
    simp only [Bool.and_eq_true, decide_eq_true_eq] at hq
    obtain ⟨⟨⟨⟨⟨q1, q2⟩, q3⟩, q4⟩, q5⟩, q6⟩ := hq
    obtain rfl := nb_eq q1
    obtain ⟨x, r, rfl, g1⟩ := in_I1 h
    obtain ⟨⟨g2, g3, g4, g5⟩, g1⟩ := in_no g1
    rw [q2] at g4
    rw [q3] at g5
    obtain ⟨w1, w2, w3⟩ := ar_wd
    have hcls : ∀ (ty : FieldType) (cA : ClassId) (i : Nat) (cB : ClassId), (∀ C, ty ≠ .object C) → va_K (gD G) vwCl (tysM (gC G) ++ [(cA, ty)]) s → (tysM (gC G))[i]? = some (cB, ty) → cA = cB := by
      intro ty cA i cB hne hk hi
      have h1 := (hk.2 4 (cA, ty) rfl).2
      have h2 := (hK2.2 i (cB, ty) hi).2
      cases ty <;> first | exact absurd rfl (hne _) | exact Option.some.inj (h1.symm.trans h2)
    have fin : ∀ (ty : FieldType) (a0 : vp_A) (i : Nat), gaM a 0 < 5 → 2 ≤ gaM a 0 → newarray.typeOf t = ty → (∀ C, ty ≠ .object C) → Cond.arrayClass ty ∈ lw_tbl → (tysM (gC G))[i]? = some (gC G (gaM a 0), ty) → (∀ cA : ClassId, vp_cell cA a0 = arrV cA x.toNatClampNeg (fun _ => defaultValue ty)) → (∀ ad' : Nat → Nat, ceK (gC G) ad' (fun _ => 0) (fun _ => 0) (gaM a 0) x.toNatClampNeg = .inl (gC G (gaM a 0), a0)) → componentBytes ty ≤ 8 →
        W p l e R s m args below meth c H locs kc ks Q (F0 m pc ls (.int x :: r.map (vaM ad))) := by
      intro ty a0 i h1 h2 h3 h4 h5 h6 h7 h8 h9
      refine va_newa (ty := ty) (a0 := a0) hx hb (by rw [h3]; exact hts _ h5 rfl) h3 hK2 hP hD hS hUA h7 g2 rfl (by have := Nat.mul_le_mul g3 h9; omega) (Nat.le_trans g4 hr3) (Nat.le_trans g5 hr4) hd (fun q cA H1 k1 p1 d1 s1 => ?_)
      obtain rfl := hcls ty cA i _ h4 k1 h6
      exact gn g1 (by omega) (tl1 hsv) (h8 _) p1 d1 s1
    rw [List.map_cons]
    rcases (show gaM a 0 = 2 ∨ gaM a 0 = 3 ∨ gaM a 0 = 4 by omega) with e | e | e <;> rw [e] at q6
    · exact fin .int (x.toNatClampNeg, .inl fun _ => 0) 0 q5 q4 q6 (fun C => by intro z; cases z) w1 (by rw [e]; rfl) (fun cA => rfl) (fun ad' => by rw [e]; rfl) (by decide)
    · exact fin .boolean (x.toNatClampNeg, .inl fun _ => 0) 1 q5 q4 q6 (fun C => by intro z; cases z) w2 (by rw [e]; rfl) (fun cA => rfl) (fun ad' => by rw [e]; rfl) (by decide)
    · exact fin .char (x.toNatClampNeg, .inl fun _ => 0) 2 q5 q4 q6 (fun C => by intro z; cases z) w3 (by rw [e]; rfl) (fun cA => rfl) (fun ad' => by rw [e]; rfl) (by decide)
  case anewarray n =>
    simp only [Bool.and_eq_true, decide_eq_true_eq, atM] at hq
    obtain ⟨⟨⟨q1, q2⟩, q3⟩, q4⟩ := hq
    obtain rfl := nb_eq q1
    obtain ⟨x, r, rfl, g1⟩ := in_I1 h
    obtain ⟨⟨g2, g3, g4, g5⟩, g1⟩ := in_no g1
    rw [q2] at g4
    rw [q3] at g5
    rw [List.map_cons]
    refine va_newq (C := RX2) hx hb hown (hts _ (List.mem_of_getElem? q4) rfl) hAO hK2 hP hD hS hUA g2 rfl (by omega) (Nat.le_trans g4 hr3) (Nat.le_trans g5 hr4) hd (fun q cA H1 k1 p1 d1 s1 => ?_)
    have hcA : cA = gC G 6 := by
      obtain ⟨kA, comp, -, -, -, h1⟩ := (k1.2 4 (cA, .object RX2) rfl).2
      obtain ⟨kA2, comp2, -, -, -, h2⟩ := (hK2.2 3 (gC G 6, .object RX2) rfl).2
      exact Option.some.inj (h1.symm.trans h2)
    subst hcA
    exact gn g1 (by omega) (tl1 hsv) (by rfl) p1 d1 s1
  all_goals exact absurd hsp (fun z => z)
