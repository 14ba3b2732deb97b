/-! An operation of the law: what it does, uniformly. -/
theorem q_rv2 (f : Nat → Int32) (n a r : Nat) (hk : 2 * a + r < 18) {i : Nat} (h1 : 299 ≤ i) (h2 : i < 308) : rvF f n a r i = f i := by
  unfold rvF
  split
  · rw [lg_lo _ _ _ _ h2, up_n (by omega)]
  · split
    · rw [lg_lo _ _ _ _ h2, up_n (by omega)]
    · rfl
theorem q_rA2 (f : Nat → Int32) (n : Nat) {i : Nat} (h1 : 299 ≤ i) (h2 : i < 308) : ∀ k, k ≤ 18 → rvA f n k i = f i
  | 0, _ => rfl
  | k + 1, h => by rw [rvA_s, q_rv2 _ _ _ _ (by omega) h1 h2]; exact q_rA2 f n h1 h2 k (by omega)
theorem rfS_cg {f f' : Nat → Int32} : ∀ m, (∀ b, b < m → f' (299 + b) = f (299 + b)) → rfS f' m = rfS f m
  | 0, _ => rfl
  | m + 1, h => by
    unfold rfS
    rw [rfS_cg m (fun b hb => h b (Nat.lt_succ_of_lt hb)), h m (Nat.lt_succ_self m)]
theorem rfS_1 {f f' : Nat → Int32} {a : Nat} (ha : f' (299 + a) = f (299 + a) + nQ 1) (hb : ∀ b, b < 9 → ¬ b = a → f' (299 + b) = f (299 + b)) : ∀ m, m ≤ 9 → rfS f' m = if a < m then rfS f m + nQ 1 else rfS f m
  | 0, _ => rfl
  | m + 1, h => by
    have ih := rfS_1 ha hb m (by omega)
    unfold rfS
    by_cases c : m = a
    · subst c
      rw [if_neg (Nat.lt_irrefl m)] at ih
      rw [if_pos (Nat.lt_succ_self m), ih, ha, Int32.add_assoc]
    · rw [hb m (by omega) c, ih]
      by_cases c2 : a < m
      · rw [if_pos c2, if_pos (by omega), Int32.add_assoc, Int32.add_comm (nQ 1), Int32.add_assoc]
      · rw [if_neg c2, if_neg (by omega)]
abbrev usK (f : Nat → Int32) (n k : Nat) : Int32 := usF f (nQ (k / 2)) (k - k / 2 * 2) n
abbrev avK (f : Nat → Int32) (n k : Nat) : Int32 := avF f n (k / 2) (k - k / 2 * 2)
def ChK (f f' : Nat → Int32) (n n' u k : Nat) : Prop := ¬ nQ 0 < usK f' n' k - usK f n k ∨ frF f u ∨ avK f n k = -2 ∨ ¬ avK f n k < usK f' n' k - usK f n k
def OpA (f f' : Nat → Int32) (n n' u : Nat) (v : Int32) : Prop := ∃ ρ g acc, (1 ≤ ρ ∧ ρ ≤ 8 ∧ v = nQ ρ ∧ ¬ frF f u ∧ u < 6 ∧ g < 3 ∧ acc = (if ρ ≤ 4 then u else 6 + g) ∧ n' = n) ∧ (∀ i, i < 299 → f' i = f i) ∧ rfS f' 9 = rfS f 9 + nQ 1 ∧ f' (299 + acc) = f (299 + acc) + nQ 1 ∧ f' 308 = f 308 + (if f 308 < nQ 12 then nQ 1 else nQ 0) ∧ f' 309 = nQ 4 ∧ f' 310 = nQ acc ∧ f' 311 = nQ ((ρ - 1) / 2 - (ρ - 1) / 2 / 2 * 2) ∧ f' 312 = f 0
def OpB (f f' : Nat → Int32) (n n' u : Nat) (v : Int32) : Prop := (v = nQ 0 ∨ ∃ s, s ≤ 5000 ∧ v = nQ (10 + s)) ∧ rfS f' 9 = rfS f 9 ∧ ∀ k, k < 18 → ChK f f' n n' u k
theorem OpA_rf {f : Nat → Int32} {n u g : Nat} {ri : Nat → Int32} (hr : ¬ raN f n ri u g = 0) (hu : u < 6) (hg : g < 3) : OpA f (rfF f n ri u g) n n u (nQ (raN f n ri u g)) := by
  have l := ra_le f n ri u g
  have nf : ¬ frF f u := fun z => hr (if_pos z)
  have hlo := fun i hi => rf_lo f n ri hu hg (i := i) (Or.inl hi)
  unfold rfF at hlo ⊢
  rw [if_neg hr] at hlo ⊢
  generalize raN f n ri u g = ρ at *
  have ea : acN ((ρ - 1) / 2) u g = if ρ ≤ 4 then u else 6 + g := by
    unfold acN
    by_cases c : ρ ≤ 4
    · rw [if_pos c, if_pos (by omega)]
    · rw [if_neg c, if_neg (by omega)]
  have hac := ac_lt (e := (ρ - 1) / 2) hu hg
  generalize acN ((ρ - 1) / 2) u g = acc at *
  have h1 : lgF (up f (299 + acc) (f (299 + acc) + nQ 1)) (nQ 4) (nQ acc) (nQ ((ρ - 1) / 2 - (ρ - 1) / 2 / 2 * 2)) (299 + acc) = f (299 + acc) + nQ 1 := by
    rw [lg_lo _ _ _ _ (by omega), up_s]
  have h2 := rfS_1 (f := f) (a := acc) h1 (fun b hb hne => by rw [lg_lo _ _ _ _ (by omega), up_n (by omega)]) 9 (Nat.le_refl 9)
  rw [if_pos hac] at h2
  refine ⟨ρ, g, acc, ⟨by omega, l, rfl, nf, hu, hg, ea, rfl⟩, fun i hi => hlo i hi, h2, h1, ?_, rfl, rfl, rfl, ?_⟩
  · unfold lgF
    rw [if_pos rfl, up_n (by omega)]
  · show up f (299 + acc) (f (299 + acc) + nQ 1) 0 = f 0
    exact up_n (by omega)
theorem ChK_of {f f' : Nat → Int32} {n n' u : Nat} (hI : InvF f n) (h60 : n ≤ 60) (hI' : InvF f' n') (h60' : n' ≤ 60) (h : ∀ a r, a < 9 → r < 2 → ∃ old new, old ≤ 5000 ∧ new ≤ 5000 ∧ usF f' (nQ a) r n' + nQ old = usF f (nQ a) r n + nQ new ∧ (new ≤ old ∨ frF f u ∨ caN f (2 * a + r) (usF f (nQ a) r n) (nQ (new - old)) (ovF f (f (281 + (2 * a + r))) (f 0) r) = 0)) : ∀ k, k < 18 → ChK f f' n n' u k := by
  intro k hk
  obtain ⟨old, new, h1, h2, h3, h4⟩ := h (k / 2) (k - k / 2 * 2) (by omega) (by omega)
  exact chk_1 hI h60 hI' h60' (by omega) (by omega) h1 h2 h3 h4
section Oc
variable {f : Nat → Int32} {n T : Nat}
theorem OpS_cr (hI : InvF f n) (hlt : n < 60) {u g z : Nat} (hu : u < 6) (hg : g < 3) (hz : z ≤ 5000) {p : Int32} (hp : ∀ i, i < n → ¬ f (5 + 4 * i) = p) : OpA f (crF f n (riF r0Q (nQ z) (nQ 1) (nQ z) (nQ 1)) u g p (nQ z)) n (crN f n (riF r0Q (nQ z) (nQ 1) (nQ z) (nQ 1)) u g) u (nQ (raN f n (riF r0Q (nQ z) (nQ 1) (nQ z) (nQ 1)) u g)) ∨ OpB f (crF f n (riF r0Q (nQ z) (nQ 1) (nQ z) (nQ 1)) u g p (nQ z)) n (crN f n (riF r0Q (nQ z) (nQ 1) (nQ z) (nQ 1)) u g) u (nQ (raN f n (riF r0Q (nQ z) (nQ 1) (nQ z) (nQ 1)) u g)) := by
  have hI' := IF_cr hlt hI (riF r0Q (nQ z) (nQ 1) (nQ z) (nQ 1)) hu hg hz hp
  by_cases hr : raN f n (riF r0Q (nQ z) (nQ 1) (nQ z) (nQ 1)) u g = 0
  · right
    have eN : crN f n (riF r0Q (nQ z) (nQ 1) (nQ z) (nQ 1)) u g = n + 1 := if_pos hr
    rw [eN] at hI' ⊢
    refine ⟨Or.inl (by rw [hr]), ?_, ChK_of hI (by omega) hI' (by omega) (fun a r ha hr2 => ⟨0, shN a r u g z, by omega, sh_le hz, us_cr hr hlt hu hg ha p, ?_⟩)⟩
    · unfold crF
      rw [if_pos hr]
      exact rfS_cg 9 (fun b hb => by
        rw [q_rA2 _ _ (by omega) (by omega) 18 (Nat.le_refl _)]
        simp (disch := omega) only [up_n])
    · rcases ra_0 hr with c | c
      · exact Or.inr (Or.inl c)
      · by_cases cc : u = a ∨ 6 + g = a
        · obtain ⟨e, he, hca⟩ := ce_at hr2 cc hu c
          have es : shN a r u g z = if r = 0 then z else 1 := if_pos cc
          have er : riF r0Q (nQ z) (nQ 1) (nQ z) (nQ 1) e = nQ (shN a r u g z - 0) := by
            rw [es]
            rcases (show r = 0 ∨ r = 1 by omega) with rfl | rfl <;> rcases he with ⟨rfl, _⟩ | ⟨rfl, _⟩ <;> rfl
          rw [er] at hca
          exact Or.inr (Or.inr hca)
        · exact Or.inl (by unfold shN; rw [if_neg cc]; exact Nat.le_refl 0)
  · left
    have eN : crN f n (riF r0Q (nQ z) (nQ 1) (nQ z) (nQ 1)) u g = n := if_neg hr
    have eF : crF f n (riF r0Q (nQ z) (nQ 1) (nQ z) (nQ 1)) u g p (nQ z) = rfF f n (riF r0Q (nQ z) (nQ 1) (nQ z) (nQ 1)) u g := if_neg hr
    rw [eN, eF]
    exact OpA_rf hr hu hg
theorem OpS_rs (hI : InvF f n) (h60 : n ≤ 60) {j u g s z : Nat} (hj : j < n) (hu : u < 6) (hg : g < 3) (hs : s ≤ 5000) (hz : z ≤ 5000) (eu : f (5 + 4 * j + 1) = nQ u) (eg : f (5 + 4 * j + 2) = nQ g) (es : f (5 + 4 * j + 3) = nQ s) : OpA f (rsF f n (riF r0Q (moF f j (nQ z)) (nQ 0) (moF f j (nQ z)) (nQ 0)) u g j (nQ z)) n n u (nQ (raN f n (riF r0Q (moF f j (nQ z)) (nQ 0) (moF f j (nQ z)) (nQ 0)) u g)) ∨ OpB f (rsF f n (riF r0Q (moF f j (nQ z)) (nQ 0) (moF f j (nQ z)) (nQ 0)) u g j (nQ z)) n n u (nQ (raN f n (riF r0Q (moF f j (nQ z)) (nQ 0) (moF f j (nQ z)) (nQ 0)) u g)) := by
  have hI' := IF_rs h60 hI (riF r0Q (moF f j (nQ z)) (nQ 0) (moF f j (nQ z)) (nQ 0)) hu hg hz hj
  have em : moF f j (nQ z) = nQ (z - s) := by
    show (if f (5 + 4 * j + 3) < nQ z then nQ z - f (5 + 4 * j + 3) else nQ 0) = _
    rw [es]
    by_cases c : s < z
    · rw [if_pos (by rw [nQ_lt (by omega) (by omega)]; exact c), nQ_sub (by omega)]
    · rw [if_neg (by rw [nQ_lt (by omega) (by omega)]; exact c), show z - s = 0 by omega]
  generalize hri : riF r0Q (moF f j (nQ z)) (nQ 0) (moF f j (nQ z)) (nQ 0) = ri at *
  by_cases hr : raN f n ri u g = 0
  · right
    have eF : rsF f n ri u g j (nQ z) = rvA (up f (5 + 4 * j + 3) (nQ z)) n 18 := if_pos hr
    rw [eF] at hI' ⊢
    refine ⟨Or.inl (by rw [hr]), ?_, ChK_of hI h60 hI' h60 (fun a r ha hr2 => ⟨shN a r u g s, shN a r u g z, sh_le hs, sh_le hz, us_ch h60 hj ha hu hg hu hg eu eg es (by rw [up_n (by omega)]; exact eu) (by rw [up_n (by omega)]; exact eg) (up_s _ _ _) (fun i hi hne => qM_cg (fun w hw => up_n (by omega))), ?_⟩)⟩
    · exact rfS_cg 9 (fun b hb => by
        rw [q_rA2 _ _ (by omega) (by omega) 18 (Nat.le_refl _), up_n (by omega)])
    · by_cases cc : u = a ∨ 6 + g = a
      · have e1 : shN a r u g s = if r = 0 then s else 1 := if_pos cc
        have e2 : shN a r u g z = if r = 0 then z else 1 := if_pos cc
        rw [e1, e2]
        by_cases r0 : r = 0
        · rw [if_pos r0, if_pos r0]
          rcases ra_0 hr with c | c
          · exact Or.inr (Or.inl c)
          · obtain ⟨e, he, hca⟩ := ce_at hr2 cc hu c
            have er : ri e = nQ (z - s) := by
              rw [← hri, ← em]
              subst r0
              rcases he with ⟨rfl, _⟩ | ⟨rfl, _⟩ <;> rfl
            rw [er] at hca
            exact Or.inr (Or.inr hca)
        · rw [if_neg r0, if_neg r0]
          exact Or.inl (Nat.le_refl _)
      · exact Or.inl (by unfold shN; rw [if_neg cc, if_neg cc]; exact Nat.le_refl 0)
  · left
    have eF : rsF f n ri u g j (nQ z) = rfF f n ri u g := if_neg hr
    rw [eF]
    exact OpA_rf hr hu hg
theorem OpS_mv (hI : InvF f n) (h60 : n ≤ 60) {j u0 g0 s u g : Nat} (hj : j < n) (hu0 : u0 < 6) (hg0 : g0 < 3) (hs : s ≤ 5000) (eu : f (5 + 4 * j + 1) = nQ u0) (eg : f (5 + 4 * j + 2) = nQ g0) (es : f (5 + 4 * j + 3) = nQ s) (hu : u < 6) (hg : g < 3) : OpA f (mvF f n (mrF f r0Q u g j) u g j) n n u (nQ (raN f n (mrF f r0Q u g j) u g)) ∨ OpB f (mvF f n (mrF f r0Q u g j) u g j) n n u (nQ (raN f n (mrF f r0Q u g j) u g)) := by
  have hI' := IF_mv h60 hI (mrF f r0Q u g j) hu hg hj
  by_cases hr : raN f n (mrF f r0Q u g j) u g = 0
  · right
    have eF : mvF f n (mrF f r0Q u g j) u g j = rvA (up (up f (5 + 4 * j + 1) (nQ u)) (5 + 4 * j + 2) (nQ g)) n 18 := if_pos hr
    rw [eF] at hI' ⊢
    refine ⟨Or.inl (by rw [hr]), ?_, ChK_of hI h60 hI' h60 (fun a r ha hr2 => ⟨shN a r u0 g0 s, shN a r u g s, sh_le hs, sh_le hs, us_ch h60 hj ha hu0 hg0 hu hg eu eg es (by rw [up_n (by omega), up_s]) (up_s _ _ _) (by rw [up_n (by omega), up_n (by omega)]; exact es) (fun i hi hne => qM_cg (fun w hw => by rw [up_n (by omega), up_n (by omega)])), ?_⟩)⟩
    · exact rfS_cg 9 (fun b hb => by
        rw [q_rA2 _ _ (by omega) (by omega) 18 (Nat.le_refl _), up_n (by omega), up_n (by omega)])
    · by_cases cc : u = a ∨ 6 + g = a
      · by_cases c0 : u0 = a ∨ 6 + g0 = a
        · exact Or.inl (by unfold shN; rw [if_pos cc, if_pos c0]; exact Nat.le_refl _)
        · rcases ra_0 hr with c | c
          · exact Or.inr (Or.inl c)
          · obtain ⟨e, he, hca⟩ := ce_at hr2 cc hu c
            have e1 : shN a r u0 g0 s = 0 := if_neg c0
            have e2 : shN a r u g s = if r = 0 then s else 1 := if_pos cc
            have er : mrF f r0Q u g j e = nQ (shN a r u g s - shN a r u0 g0 s) := by
              rw [e1, e2]
              have n1 : u = a → ¬ f (5 + 4 * j + 1) = nQ u := fun z => by rw [eu, nQ_eq (by omega) (by omega)]; omega
              have n2 : 6 + g = a → ¬ f (5 + 4 * j + 2) = nQ g := fun z => by rw [eg, nQ_eq (by omega) (by omega)]; omega
              rcases (show r = 0 ∨ r = 1 by omega) with rfl | rfl <;> rcases he with ⟨rfl, z⟩ | ⟨rfl, z⟩
              · exact (if_neg (n1 z)).trans es
              · exact (if_neg (n2 z)).trans es
              · exact if_neg (n1 z)
              · exact if_neg (n2 z)
            rw [er] at hca
            exact Or.inr (Or.inr hca)
      · exact Or.inl (by unfold shN; rw [if_neg cc]; exact Nat.zero_le _)
  · left
    have eF : mvF f n (mrF f r0Q u g j) u g j = rfF f n (mrF f r0Q u g j) u g := if_neg hr
    rw [eF]
    exact OpA_rf hr hu hg
theorem OpS_de (hI : InvF f (n + 1)) (h60 : n + 1 ≤ 60) {j u0 g0 s : Nat} (hj : j < n + 1) (hu0 : u0 < 6) (hg0 : g0 < 3) (hs : s ≤ 5000) (eu : f (5 + 4 * j + 1) = nQ u0) (eg : f (5 + 4 * j + 2) = nQ g0) (es : f (5 + 4 * j + 3) = nQ s) (u : Nat) : OpB f (deF f (n + 1) j) (n + 1) n u (nQ (10 + s)) := by
  refine ⟨Or.inr ⟨s, hs, rfl⟩, ?_, ChK_of hI h60 (IF_de (by omega) hI hj) (by omega) (fun a r ha hr2 => ⟨shN a r u0 g0 s, 0, sh_le hs, by omega, us_de (by omega) hj ha hu0 hg0 eu eg es, Or.inl (Nat.zero_le _)⟩)⟩
  unfold deF
  rw [Nat.add_sub_cancel]
  exact rfS_cg 9 (fun b hb => by
    rw [q_rA2 _ _ (by omega) (by omega) 18 (Nat.le_refl _)]
    exact (de_at f).2 _ (by omega))
end Oc
