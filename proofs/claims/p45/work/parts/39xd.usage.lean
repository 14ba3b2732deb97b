/-! Usages as numbers, and what an operation that is not refused does to them. -/
def shN (a r u g z : Nat) : Nat := if u = a ∨ 6 + g = a then (if r = 0 then z else 1) else 0
theorem sh_le {a r u g z : Nat} (hz : z ≤ 5000) : shN a r u g z ≤ 5000 := by
  unfold shN
  split
  · split <;> omega
  · omega
theorem gA_N {a r u g z : Nat} (hu : u < 6) (hg : g < 3) (ha : a < 9) (p : Int32) : gAR (nQ a) r (p, nQ u, nQ g, nQ z) = nQ (shN a r u g z) := by
  unfold gAR shN
  dsimp only
  have e : (nQ u = nQ a ∨ nQ 6 + nQ g = nQ a) ↔ (u = a ∨ 6 + g = a) := by
    rw [nQ_add, nQ_eq (by omega) (by omega), nQ_eq (by omega) (by omega)]
  by_cases c : u = a ∨ 6 + g = a
  · rw [if_pos (e.mpr c), if_pos c]
    by_cases c2 : r = 0
    · rw [if_pos c2, if_pos c2]
    · rw [if_neg c2, if_neg c2]
  · rw [if_neg (fun z => c (e.mp z)), if_neg c]
theorem us_N {f : Nat → Int32} {a r : Nat} (ha : a < 9) : ∀ n, (∀ i, i < n → ∃ u g z, u < 6 ∧ g < 3 ∧ z ≤ 5000 ∧ f (5 + 4 * i + 1) = nQ u ∧ f (5 + 4 * i + 2) = nQ g ∧ f (5 + 4 * i + 3) = nQ z) → ∃ U, U ≤ 5000 * n ∧ usF f (nQ a) r n = nQ U
  | 0, _ => ⟨0, by omega, rfl⟩
  | n + 1, h => by
    obtain ⟨U, h1, h2⟩ := us_N ha n (fun i hi => h i (Nat.lt_succ_of_lt hi))
    obtain ⟨u, g, z, hu, hg, hz, e1, e2, e3⟩ := h n (Nat.lt_succ_self n)
    have e := gA_N (r := r) (z := z) hu hg ha (f (5 + 4 * n))
    have l := sh_le (a := a) (r := r) (u := u) (g := g) hz
    refine ⟨U + shN a r u g z, by omega, ?_⟩
    rw [us_sm, Lq_s, sm_app, ← us_sm, h2, ← nQ_add, ← e]
    unfold qM
    rw [e1, e2, e3]
theorem ra_0 {f : Nat → Int32} {n : Nat} {ri : Nat → Int32} {u g : Nat} (h : raN f n ri u g = 0) : frF f u ∨ ∀ e, e < 4 → ceN f n ri u g e = 0 := by
  unfold raN at h
  by_cases c : frF f u
  · exact Or.inl c
  · rw [if_neg c] at h
    refine Or.inr fun e he => ?_
    have L : ∀ m e0, reN f n ri u g m e0 = 0 → ∀ e, e0 ≤ e → e < e0 + m → ceN f n ri u g e = 0 := by
      intro m
      induction m with
      | zero => intro e0 _ e h1 h2; omega
      | succ m ih =>
        intro e0 h0 e h1 h2
        unfold reN at h0
        by_cases c1 : 0 < ceN f n ri u g e0
        · rw [if_pos c1] at h0
          omega
        · rw [if_neg c1] at h0
          by_cases c2 : e = e0
          · rw [c2]; omega
          · exact ih (e0 + 1) h0 e (by omega) (by omega)
    exact L 4 0 h e (Nat.zero_le _) (by omega)
theorem ce_at {f : Nat → Int32} {n : Nat} {ri : Nat → Int32} {u g a r : Nat} (hr : r < 2) (hc : u = a ∨ 6 + g = a) (hu : u < 6) (h : ∀ e, e < 4 → ceN f n ri u g e = 0) : ∃ e, (e = r ∧ u = a ∨ e = 2 + r ∧ 6 + g = a) ∧ caN f (2 * a + r) (usF f (nQ a) r n) (ri e) (ovF f (f (281 + (2 * a + r))) (f 0) r) = 0 := by
  rcases hc with rfl | rfl
  · have := h r (by omega)
    unfold ceN acN at this
    rw [if_pos hr, show r - r / 2 * 2 = r by omega] at this
    exact ⟨r, Or.inl ⟨rfl, rfl⟩, this⟩
  · have := h (2 + r) (by omega)
    unfold ceN acN at this
    rw [if_neg (by omega), show 2 + r - (2 + r) / 2 * 2 = r by omega] at this
    exact ⟨2 + r, Or.inr ⟨rfl, rfl⟩, this⟩
/-- what is not refused passes no limit of one who is checked -/
theorem chk_1 {f f' : Nat → Int32} {n n' a r old new u : Nat} (hI : InvF f n) (h60 : n ≤ 60) (hI' : InvF f' n') (h60' : n' ≤ 60) (ha : a < 9) (hr : r < 2) (ho : old ≤ 5000) (hw : new ≤ 5000) (hU : usF f' (nQ a) r n' + nQ old = usF f (nQ a) r n + nQ new) (hc : new ≤ old ∨ frF f u ∨ caN f (2 * a + r) (usF f (nQ a) r n) (nQ (new - old)) (ovF f (f (281 + (2 * a + r))) (f 0) r) = 0) :
    ¬ nQ 0 < usF f' (nQ a) r n' - usF f (nQ a) r n ∨ frF f u ∨ avF f n a r = -2 ∨ ¬ avF f n a r < usF f' (nQ a) r n' - usF f (nQ a) r n := by
  have hk : 2 * a + r < 18 := by omega
  obtain ⟨U, u1, u2⟩ := us_N (a := a) (r := r) ha n hI.1.1
  obtain ⟨U', v1, v2⟩ := us_N (a := a) (r := r) ha n' hI'.1.1
  obtain ⟨s, hd, hs, hhd, es, ed⟩ := hI.1.2.2.2 (2 * a + r) hk
  have hB := hI.2 (2 * a + r) hk
  rw [show (2 * a + r) / 2 = a by omega, show 2 * a + r - a * 2 = r by omega, es, u2] at hB
  rw [u2, v2, nQ_add, nQ_add, nQ_eq (by omega) (by omega)] at hU
  by_cases hle : new ≤ old
  · refine Or.inl ?_
    rw [u2, v2, Int32.lt_iff_toInt_lt, Int32.toInt_sub, nQ_int (by omega), nQ_int (by omega), nQ_int (by omega), Int.bmod_eq_of_le (by omega) (by omega)]
    omega
  · rcases hc with hc | hc | hc
    · exact absurd hc hle
    · exact Or.inr (Or.inl hc)
    · refine Or.inr (Or.inr ?_)
      unfold avF
      rw [u2] at hc ⊢
      rw [v2]
      unfold caN at hc
      rw [ed, es, nQ_add] at hc
      have e0 : ¬ nQ (new - old) = nQ 0 := by rw [nQ_eq (by omega) (by decide)]; omega
      rw [if_neg e0] at hc
      by_cases c1 : ¬ nQ hd = nQ 0 ∧ nQ hd < nQ (U + (new - old))
      · rw [if_pos c1] at hc
        cases hc
      · rw [if_neg c1] at hc
        have nov : ¬ ovF f (f (281 + (2 * a + r))) (f 0) r := fun ov => by
          have q := (hB ov.1).2
          rw [nQ_lt (by omega) (by omega)] at q
          rw [if_pos ⟨ov, by rw [nQ_lt (by omega) (by omega)]; omega⟩] at hc
          cases hc
        rw [if_neg nov, ed]
        by_cases c2 : nQ hd = nQ 0
        · exact Or.inl (if_pos c2)
        · have c3 : U + (new - old) ≤ hd := Nat.le_of_not_lt (fun z => c1 ⟨c2, by rw [nQ_lt (by omega) (by omega)]; exact z⟩)
          refine Or.inr ?_
          have hneg : ¬ nQ (hd - U) < nQ 0 := by rw [nQ_lt (by omega) (by omega)]; omega
          rw [if_neg c2, nQ_sub (by omega), nQ_sub (by omega), if_neg hneg, nQ_lt (by omega) (by omega)]
          omega
section Ud
variable {f : Nat → Int32} {n : Nat}
theorem qM_cg {f f' : Nat → Int32} {i : Nat} (h : ∀ w, w < 4 → f' (5 + 4 * i + w) = f (5 + 4 * i + w)) : qM f' i = qM f i := by
  have h0 := h 0 (by decide)
  rw [Nat.add_zero] at h0
  unfold qM
  rw [h0, h 1 (by decide), h 2 (by decide), h 3 (by decide)]
theorem us_cr {ri : Nat → Int32} {u g : Nat} (h : raN f n ri u g = 0) (h60 : n < 60) {a r z : Nat} (hu : u < 6) (hg : g < 3) (ha : a < 9) (p : Int32) : usF (crF f n ri u g p (nQ z)) (nQ a) r (n + 1) + nQ 0 = usF f (nQ a) r n + nQ (shN a r u g z) := by
  unfold crF
  rw [if_pos h, us_rA _ (by omega) _ _ 18 (Nat.le_refl _), us_sm, Lq_s, sm_app, ← gA_N hu hg ha p]
  have e1 : Lq (qM (up (up (up (up (up f (5 + 4 * n) p) (5 + 4 * n + 1) (nQ u)) (5 + 4 * n + 2) (nQ g)) (5 + 4 * n + 3) (nQ z)) 4 (nQ (n + 1)))) n = Lq (qM f) n := Lq_congr (fun i hi => qM_cg (fun w hw => by simp (disch := omega) only [up_n]))
  have e2 : qM (up (up (up (up (up f (5 + 4 * n) p) (5 + 4 * n + 1) (nQ u)) (5 + 4 * n + 2) (nQ g)) (5 + 4 * n + 3) (nQ z)) 4 (nQ (n + 1))) n = (p, nQ u, nQ g, nQ z) := by
    unfold qM
    simp (disch := omega) only [up_n, up_s]
  rw [e1, e2, ← us_sm]
  exact Int32.add_zero _
theorem us_ch {f' : Nat → Int32} (h60 : n ≤ 60) {j a r u0 g0 s u g z : Nat} (hj : j < n) (ha : a < 9) (hu0 : u0 < 6) (hg0 : g0 < 3) (hu : u < 6) (hg : g < 3) (eu : f (5 + 4 * j + 1) = nQ u0) (eg : f (5 + 4 * j + 2) = nQ g0) (es : f (5 + 4 * j + 3) = nQ s) (eu' : f' (5 + 4 * j + 1) = nQ u) (eg' : f' (5 + 4 * j + 2) = nQ g) (es' : f' (5 + 4 * j + 3) = nQ z) (hf : ∀ i, i < n → ¬ i = j → qM f' i = qM f i) : usF (rvA f' n 18) (nQ a) r n + nQ (shN a r u0 g0 s) = usF f (nQ a) r n + nQ (shN a r u g z) := by
  have e := sm_ch hj hf (nQ a) r
  unfold qM at e
  rw [eu, eg, es, eu', eg', es', gA_N hu0 hg0 ha, gA_N hu hg ha] at e
  rw [us_rA _ h60 _ _ 18 (Nat.le_refl _), Int32.add_comm, e, Int32.add_comm]
theorem us_de (h60 : n < 60) {j a r u0 g0 s : Nat} (hj : j < n + 1) (ha : a < 9) (hu0 : u0 < 6) (hg0 : g0 < 3) (eu : f (5 + 4 * j + 1) = nQ u0) (eg : f (5 + 4 * j + 2) = nQ g0) (es : f (5 + 4 * j + 3) = nQ s) : usF (deF f (n + 1) j) (nQ a) r n + nQ (shN a r u0 g0 s) = usF f (nQ a) r (n + 1) + nQ 0 := by
  unfold deF
  rw [Nat.add_sub_cancel, us_rA _ (by omega) _ _ 18 (Nat.le_refl _), us_sm, us_sm f]
  obtain ⟨hm, hf⟩ := de_at f (n := n) (j := j)
  have hp := er_perm (qM f) (qM (deK (up f 4 (nQ n)) j (4 * n))) j n (by omega) (fun k hk => by
    by_cases c : k < j
    · rw [if_pos c]
      exact qM_cg (fun w hw => by rw [hm k w hk hw, if_pos c])
    · rw [if_neg c]
      have e0 := hm k 0 hk (by decide)
      rw [Nat.add_zero] at e0
      unfold qM
      rw [e0, hm k 1 hk (by decide), hm k 2 hk (by decide), hm k 3 hk (by decide), if_neg c, if_neg c, if_neg c, if_neg c]
      rfl)
  rw [sm_perm _ hp, ← gA_N hu0 hg0 ha (f (5 + 4 * j)), ← eu, ← eg, ← es]
  show _ = gAR (nQ a) r (qM f j) + _ + nQ 0
  rw [Int32.add_comm, show ∀ x : Int32, x + nQ 0 = x from fun x => Int32.add_zero x]
  rfl
end Ud
