theorem Rp_nxwr (σ : Mem) (v j : Nat) (x : Int32) : nxM (wrM σ v j x) = nxM σ := rfl
theorem wr_tk (σ : Mem) (v j : Nat) (x : Int32) (u : Nat) : tkM (wrM σ v j x) u = tkM σ u := rfl
theorem wr_pr (σ : Mem) (v j : Nat) (x : Int32) (u i : Nat) : prM (wrM σ v j x) u i = prM σ u i := rfl
theorem wr_rd (σ : Mem) (v j : Nat) (x : Int32) (u i : Nat) : rdM (wrM σ v j x) u i = if u = v ∧ i = j then x else rdM σ u i := rfl
theorem wr_ne {σ : Mem} {v j : Nat} {x : Int32} {u i : Nat} (h : u ≠ v) : rdM (wrM σ v j x) u i = rdM σ u i := if_neg (fun q => h q.1)
theorem wp_pr (σ : Mem) (v j x u i : Nat) : prM (wpM σ v j x) u i = if u = v ∧ i = j then x else prM σ u i := rfl
theorem wp_ne {σ : Mem} {v j x u i : Nat} (h : u ≠ v) : prM (wpM σ v j x) u i = prM σ u i := if_neg (fun q => h q.1)
theorem cl_own : ∀ ci, ci < 5 → ∀ k, k < (clM ci).2.2 → (fT ci k).1 = rcM ci := by
  intro ci h k hk
  have hb : (clM ci).2.2 ≤ 11 := by
    rcases (show ci = 0 ∨ ci = 1 ∨ ci = 2 ∨ ci = 3 ∨ ci = 4 by omega) with rfl | rfl | rfl | rfl | rfl <;> decide
  have hk' : k < 11 := Nat.lt_of_lt_of_le hk hb
  rcases (show ci = 0 ∨ ci = 1 ∨ ci = 2 ∨ ci = 3 ∨ ci = 4 by omega) with rfl | rfl | rfl | rfl | rfl <;>
    rcases (show k = 0 ∨ k = 1 ∨ k = 2 ∨ k = 3 ∨ k = 4 ∨ k = 5 ∨ k = 6 ∨ k = 7 ∨ k = 8 ∨ k = 9 ∨ k = 10 by omega) with rfl | rfl | rfl | rfl | rfl | rfl | rfl | rfl | rfl | rfl | rfl <;> rfl
def psM (ic : IcM) : Prop := match ic.1 with
  | .putfield _ | .iastore | .bastore | .aastore => True
  | _ => False
set_option maxHeartbeats 8000000 in
theorem sim_b {G : GlM} {l : Launch} {k : Nat} {ic : IcM} {fr : FrM} {σ : Mem} {o : OutM} {Φ : Nat → List Value → Mem → Option OutM} {K : FrM → Mem → Option OutM}
    (hmt : MtP k) (hK : ∀ fr' σ', K fr' σ' = some o → WsM G l k fr' σ' o) (hok : okM k fr.1 ic = true) (hsp : psM ic) (h : stM Φ K k ic fr σ = some o) : WsM G l k fr σ o := by
  obtain ⟨pc, la, sa, kc, ks⟩ := fr
  obtain ⟨i, len, a, cst⟩ := ic
  intro p e R s m args below meth c ad H locs Q ls st hA hR hS hL hsk hX
  obtain ⟨rfl, hsv⟩ := hsk
  obtain ⟨⟨hx, hb, hml, hrt, hlk, hnm, hown⟩, hts, hE, hr1, hr2, hr3, hr4⟩ := id hA
  obtain ⟨hP, hD, hT, hAd⟩ := id hR
  obtain ⟨hE1, hK2, hT2, hB0, hAO⟩ := id hE
  have hts2 : ∀ w ∈ lw_tbl.filter goodWord, w.before args s = true := fun w hw => hts w (List.mem_filter.mp hw).1 (List.mem_filter.mp hw).2
  unfold okM at hok
  dsimp only at hok
  rw [Bool.and_eq_true] at hok
  obtain ⟨hd, hq⟩ := hok
  replace hd := of_decide_eq_true hd
  have tl1 : ∀ {v : Value} {r : List Value}, (∀ w ∈ v :: r, vkM (nxM σ) w = true) → ∀ w ∈ r, vkM (nxM σ) w = true := fun h => (List.forall_mem_cons.mp h).2
  have go : ∀ {pc' : Nat} {sa' : List Value} {σ' : Mem} {H' : Heap} {locs' : List Loc}, K (pc', la, sa', kc, ks) σ' = some o → nxM σ' = nxM σ → RpM G ad σ' H' → va_S (gU G) s.heap H' locs' → (∀ v ∈ sa', vkM (nxM σ) v = true) → W p l e R s m args below meth c H' locs' kc ks Q (F0 m pc' ls (sa'.map (vaM ad))) :=
    fun h hn h1 h2 h3 => hK _ _ h p e R s m args below meth c ad _ _ Q _ _ hA h1 h2 (by rw [hn]; exact hL) ⟨rfl, by rw [hn]; exact h3⟩ (by rw [hn]; exact hX)
  cases i
  case putfield n =>
    simp only [Bool.and_eq_true, decide_eq_true_eq, flI] at hq
    obtain ⟨⟨⟨⟨⟨⟨q1, q2⟩, q3⟩, q4⟩, q5⟩, q6⟩, q7⟩ := hq
    obtain rfl := nb_eq q4
    have hfl := flL_ok _ (List.mem_of_getElem? q6)
    obtain ⟨c0, c2, c1, c3⟩ := cl_kind _ q1 _ q2
    rw [← q3] at c0 c2 c1 c3
    -- one store, whatever its value
    have main : ∀ (v : Nat) (w : Value) (r : List Value) (σ' : Mem), tkM σ v = (1, gaM a 0) → K (pc + 3, la, r, kc, ks) σ' = some o → (∀ v ∈ r, vkM (nxM σ) v = true) → nxM σ' = nxM σ → (∀ u, tkM σ' u = tkM σ u) → (∀ u j, u ≠ v → rdM σ' u j = rdM σ u j) → (∀ u j, u ≠ v → prM σ' u j = prM σ u j) → (∀ j, prM σ' v j < nxM σ) →
        (∀ j, j ≠ gaM a 1 → rdM σ' v j = rdM σ v j) → (∀ j, j ≠ gaM a 1 → prM σ' v j = prM σ v j) → w = (bif Nat.beq (fkN (gaM a 0) (gaM a 1)) 1 then vaM ad (.ref (prM σ' v (gaM a 1))) else .int (rdM σ' v (gaM a 1))) →
        narrow (tyN (gaM a 0) (gaM a 1)) w = w → fits (tyN (gaM a 0) (gaM a 1)) w = true → W p l e R s m args below meth c H locs kc ks Q (F0 m pc ls (w :: vaM ad (.ref v) :: r.map (vaM ad))) := by
      intro v w r σ' htk h hr s1 s2 s3 s4 s5 s6 s7 hw hn hf
      obtain ⟨k1, k2, k3⟩ := tk_kind (κ := 1) hT (by rw [htk]) (Nat.le_refl 1)
      have k8 := k3 (by decide)
      have hpt := cs_at (c := gC G) (ad := ad) k8 k1
      rw [ce_obj htk] at hpt
      have hset : ((List.range (clM (gaM a 0)).2.2).map fun k => bif Nat.beq (fkN (gaM a 0) k) 1 then vaM ad (.ref (prM σ v k)) else .int (rdM σ v k)).set (gaM a 1) w = (List.range (clM (gaM a 0)).2.2).map fun k => bif Nat.beq (fkN (gaM a 0) k) 1 then vaM ad (.ref (prM σ' v k)) else .int (rdM σ' v k) := by
        rw [hw]
        exact Ru_set (f := fun k => bif Nat.beq (fkN (gaM a 0) k) 1 then vaM ad (.ref (prM σ v k)) else .int (rdM σ v k)) (g := fun k => bif Nat.beq (fkN (gaM a 0) k) 1 then vaM ad (.ref (prM σ' v k)) else .int (rdM σ' v k)) q2 (fun j hj => by rw [s6 j hj, s7 j hj])
      have hl : gaM a 1 < ((List.range (clM (gaM a 0)).2.2).map fun k => bif Nat.beq (fkN (gaM a 0) k) 1 then vaM ad (.ref (prM σ v k)) else .int (rdM σ v k)).length := by rw [List.length_map, List.length_range]; exact q2
      have hce : ceM (gC G) ad σ' v = .inr (gaM a 0, (List.range (clM (gaM a 0)).2.2).map fun k => bif Nat.beq (fkN (gaM a 0) k) 1 then vaM ad (.ref (prM σ' v k)) else .int (rdM σ' v k)) := ce_obj (by rw [s2]; exact htk)
      have fin : ∀ (H1 : Heap) (locs1 : List Loc), va_P (gD G) vwCl ((csM (gC G) ad σ).set (v - 8) (ad v, .inr (gaM a 0, ((List.range (clM (gaM a 0)).2.2).map fun k => bif Nat.beq (fkN (gaM a 0) k) 1 then vaM ad (.ref (prM σ v k)) else .int (rdM σ v k)).set (gaM a 1) w))) H1 → va_D (gU G) ((csM (gC G) ad σ).set (v - 8) (ad v, .inr (gaM a 0, ((List.range (clM (gaM a 0)).2.2).map fun k => bif Nat.beq (fkN (gaM a 0) k) 1 then vaM ad (.ref (prM σ v k)) else .int (rdM σ v k)).set (gaM a 1) w))) → va_S (gU G) s.heap H1 locs1 → W p l e R s m args below meth c H1 locs1 kc ks Q (F0 m (pc + 3) ls (r.map (vaM ad))) := by
        intro H1 locs1 p1 d1 s8
        rw [hset, ← hce] at p1 d1
        exact go h s1 (Rp_set hR k8 k1 s1 s2 s3 s4 s5 p1 d1) s8 hr
      rw [va_nz k2]
      rcases (show gaM a 3 = 0 ∨ gaM a 3 = 1 by omega) with e3 | e3
      · rw [e3] at hfl
        have hw2 : (Cond.fieldLink (owM k) n (fT (gaM a 0) (gaM a 1)).1 (fT (gaM a 0) (gaM a 1)).2.1 (fT (gaM a 0) (gaM a 1)).2.2.1).before args s = true := by rw [hmt.1]; exact hts _ hfl rfl
        simp only [Bool.or_eq_true, Bool.and_eq_true, decide_eq_true_eq] at q7
        rcases q7 with q7 | ⟨⟨⟨f1, f2⟩, f3⟩, f4⟩
        · exact va_put (D := gD G) (cl := vwCl) (C := (clM (gaM a 0)).1) (T := (clM (gaM a 0)).2.1) (N := (clM (gaM a 0)).2.2) (ty := tyN (gaM a 0) (gaM a 1)) hx hb hts2 (cl_ws _ q1) (tyN (gaM a 0)) (cl_ty _ q1) (cl_nm _ q1) hown hK2 hP hD hS (v - 8) hpt (cl_at q1) (gaM a 1) q2 hw2 (fun _ z => z) q7 (cl_ty _ q1 _ q2) hn hf hl hd fin
        · have hown2 : (fT (gaM a 0) (gaM a 1)).1 = owM k := by
            rw [hmt.1, ← f3]
            exact cl_own _ q1 _ q2
          exact va_putF (D := gD G) (cl := vwCl) (C := (clM (gaM a 0)).1) (T := (clM (gaM a 0)).2.1) (N := (clM (gaM a 0)).2.2) (ty := tyN (gaM a 0) (gaM a 1)) hx hb hts2 (cl_ws _ q1) (tyN (gaM a 0)) (cl_ty _ q1) (cl_nm _ q1) hown hK2 hP hD hS (v - 8) hpt (cl_at q1) (gaM a 1) q2 hw2 (fun _ z => z) f1 (hnm.trans (hmt.2.2.2.2.1 f2).2) hown2 (cl_ty _ q1 _ q2) hn hf hl hd fin
      · rw [e3] at hfl
        have hw2 : (Cond.fieldLinkNest (owM k) n (fT (gaM a 0) (gaM a 1)).1 (fT (gaM a 0) (gaM a 1)).2.1 (fT (gaM a 0) (gaM a 1)).2.2.1 RX4).before args s = true := by rw [hmt.1]; exact va_Nw.use rfl (hE1 _ hfl rfl)
        have f7 : ((clM (gaM a 0)).2.1 (gaM a 1)).2.2.2 = false := by
          simp only [Bool.or_eq_true, Bool.and_eq_true, decide_eq_true_eq] at q7
          rcases q7 with q7 | q7
          · exact q7
          · omega
        exact va_putN (D := gD G) (cl := vwCl) (C := (clM (gaM a 0)).1) (T := (clM (gaM a 0)).2.1) (N := (clM (gaM a 0)).2.2) (ty := tyN (gaM a 0) (gaM a 1)) hx hb hts2 (cl_ws _ q1) (tyN (gaM a 0)) (cl_ty _ q1) (cl_nm _ q1) hown hK2 hP hD hS (v - 8) hpt (cl_at q1) (gaM a 1) q2 hw2 (fun _ z => z) f7 (cl_ty _ q1 _ q2) hn hf hl hd fin
    rcases (show gaM a 2 = 0 ∨ gaM a 2 = 1 ∨ gaM a 2 = 2 by omega) with e | e | e
    · simp only [stM, e, show Nat.beq 0 1 = false from rfl, show Nat.beq 0 2 = false from rfl, cond_false] at h
      obtain ⟨x, v, r, rfl, g1⟩ := in_IR h
      obtain ⟨htk, g1⟩ := in_no g1
      rw [List.map_cons, List.map_cons]
      refine main v (.int x) r _ htk g1 (tl1 (tl1 hsv)) rfl (fun _ => rfl) (fun _ _ hu => wr_ne hu) (fun _ _ _ => rfl) (fun j => hT.2.2.2.1 v j) (fun j hj => if_neg (fun q => hj q.2)) (fun _ _ => rfl) ?_ (by rw [c0 e]; rfl) (by rw [c0 e]; rfl)
      rw [← q3, e, wr_rd, if_pos ⟨rfl, rfl⟩]; rfl
    · simp only [stM, e, show Nat.beq 1 1 = true from rfl, cond_true] at h
      obtain ⟨x, v, r, rfl, g1⟩ := in_RR h
      obtain ⟨htk, g1⟩ := in_no g1
      rw [List.map_cons, List.map_cons]
      have hxv : x < nxM σ := of_decide_eq_true (List.forall_mem_cons.mp hsv).1
      refine main v (vaM ad (.ref x)) r _ htk g1 (tl1 (tl1 hsv)) rfl (fun _ => rfl) (fun _ _ _ => rfl) (fun _ _ hu => wp_ne hu) (fun j => ?_) (fun _ _ => rfl) (fun j hj => if_neg (fun q => hj q.2)) ?_ ?_ ?_
      · rw [wp_pr]; split
        · exact hxv
        · exact hT.2.2.2.1 v j
      · rw [← q3, e, wp_pr, if_pos ⟨rfl, rfl⟩]; rfl
      · rcases c1 e with ⟨C, e2⟩ | ⟨t, e2⟩ <;> rw [e2] <;> rcases va_null ad x with e3 | ⟨q, e3⟩ <;> rw [e3] <;> rfl
      · rcases c1 e with ⟨C, e2⟩ | ⟨t, e2⟩ <;> rw [e2] <;> rcases va_null ad x with e3 | ⟨q, e3⟩ <;> rw [e3] <;> rfl
    · simp only [stM, e, show Nat.beq 2 1 = false from rfl, show Nat.beq 2 2 = true from rfl, cond_false, cond_true] at h
      obtain ⟨x, v, r, rfl, g1⟩ := in_IR h
      obtain ⟨⟨htk, hx0, hx1⟩, g1⟩ := in_no g1
      rw [List.map_cons, List.map_cons]
      refine main v (.int x) r _ htk g1 (tl1 (tl1 hsv)) rfl (fun _ => rfl) (fun _ _ hu => wr_ne hu) (fun _ _ _ => rfl) (fun j => hT.2.2.2.1 v j) (fun j hj => if_neg (fun q => hj q.2)) (fun _ _ => rfl) ?_ (by rw [c2 e]; exact (ch_ok hx0 hx1).1) (by rw [c2 e]; exact (ch_ok hx0 hx1).2)
      rw [← q3, e, wr_rd, if_pos ⟨rfl, rfl⟩]; rfl
  case iastore =>
    simp only [Bool.and_eq_true] at hq
    obtain rfl := nb_eq hq.2
    obtain ⟨x, i, v, r, rfl, g1⟩ := in_IIR h
    obtain ⟨⟨⟨hk, hi⟩, k8⟩, g1⟩ := in_no g1
    obtain ⟨k1, k2, -⟩ := tk_kind (κ := 2) hT hk (by decide)
    rw [List.map_cons, List.map_cons, List.map_cons, va_nz k2]
    have hpt := cs_at (c := gC G) (ad := ad) k8 k1
    rw [ce_int hk (Or.inl rfl)] at hpt
    refine va_iast hx hb hK2 hP hD hS (v - 8) 0 hpt (ty_at _).1 hi hd (fun H1 locs1 p1 d1 s1 => ?_)
    have hce : ceM (gC G) ad (wrM σ v i.toNatClampNeg x) v = .inl (gC G 2, (tkM σ v).2, .inl (rdM (wrM σ v i.toNatClampNeg x) v)) := ce_int (κ := 2) hk (Or.inl rfl)
    rw [upd_wr, ← hce] at p1 d1
    exact go g1 rfl (Rp_set hR k8 k1 rfl (fun _ => rfl) (fun _ _ hu => wr_ne hu) (fun _ _ _ => rfl) (fun j => hT.2.2.2.1 v j) p1 d1) s1 (tl1 (tl1 (tl1 hsv)))
  case bastore =>
    simp only [Bool.and_eq_true] at hq
    obtain rfl := nb_eq hq.2
    obtain ⟨x, i, v, r, rfl, g1⟩ := in_IIR h
    obtain ⟨⟨hk, hi⟩, g1⟩ := in_no g1
    obtain ⟨k1, k2, k3⟩ := tk_kind (κ := 3) hT hk (by decide)
    have k8 := k3 (by decide)
    rw [List.map_cons, List.map_cons, List.map_cons, va_nz k2]
    have hpt := cs_at (c := gC G) (ad := ad) k8 k1
    rw [ce_int hk (Or.inr (Or.inl rfl))] at hpt
    refine va_zast hx hb hK2 hP hD hS (v - 8) 1 hpt (ty_at _).2.1 hi hd (fun H1 locs1 p1 d1 s1 => ?_)
    have hce : ceM (gC G) ad (wrM σ v i.toNatClampNeg (x &&& 1)) v = .inl (gC G 3, (tkM σ v).2, .inl (rdM (wrM σ v i.toNatClampNeg (x &&& 1)) v)) := ce_int (κ := 3) hk (Or.inr (Or.inl rfl))
    rw [show vp_nar .boolean x = x &&& 1 from rfl, upd_wr, ← hce] at p1 d1
    exact go g1 rfl (Rp_set hR k8 k1 rfl (fun _ => rfl) (fun _ _ hu => wr_ne hu) (fun _ _ _ => rfl) (fun j => hT.2.2.2.1 v j) p1 d1) s1 (tl1 (tl1 (tl1 hsv)))
  case aastore =>
    simp only [Bool.and_eq_true] at hq
    obtain rfl := nb_eq hq.2
    obtain ⟨x, i, v, r, rfl, g1⟩ := in_RIR h
    obtain ⟨⟨⟨hk, hi⟩, hxk⟩, g1⟩ := in_no g1
    obtain ⟨k1, k2, k3⟩ := tk_kind (κ := 6) hT hk (by decide)
    have k8 := k3 (by decide)
    obtain ⟨j1, j2, j3⟩ := tk_kind (κ := 1) hT (by rw [hxk]) (Nat.le_refl 1)
    have j8 := j3 (by decide)
    rw [List.map_cons, List.map_cons, List.map_cons, va_nz k2, va_nz j2]
    have hpt := cs_at (c := gC G) (ad := ad) k8 k1
    rw [ce_ref hk] at hpt
    have hpx := cs_at (c := gC G) (ad := ad) j8 j1
    rw [ce_obj hxk] at hpx
    refine va_astq (r := clM 2) hx hb hK2 hP hD hS (v - 8) 3 (x - 8) 2 hpt (ty_at _).2.2.2 hpx (cl_at (by decide)) hi hd (fun H1 locs1 p1 d1 s1 => ?_)
    have hrow : (va_up (fun j => rfM ad (prM σ v j)) i.toNatClampNeg (some (ad x))) = fun j => rfM ad (prM (wpM σ v i.toNatClampNeg x) v j) := by
      funext j
      show (if j = i.toNatClampNeg then some (ad x) else rfM ad (prM σ v j)) = rfM ad (if v = v ∧ j = i.toNatClampNeg then x else prM σ v j)
      by_cases e : j = i.toNatClampNeg
      · simp only [e, and_self, if_true]; unfold rfM; rw [if_neg j2]
      · simp [e]
    have hce : ceM (gC G) ad (wpM σ v i.toNatClampNeg x) v = .inl (gC G 6, (tkM σ v).2, .inr (.inr (.inr (.inr fun j => rfM ad (prM (wpM σ v i.toNatClampNeg x) v j))))) := ce_ref hk
    rw [hrow, ← hce] at p1 d1
    refine go g1 rfl (Rp_set hR k8 k1 rfl (fun _ => rfl) (fun _ _ _ => rfl) (fun _ _ hu => wp_ne hu) (fun j => ?_) p1 d1) s1 (tl1 (tl1 (tl1 hsv)))
    rw [wp_pr]; split
    · exact j1
    · exact hT.2.2.2.1 v j
  all_goals exact absurd hsp (fun z => z)
