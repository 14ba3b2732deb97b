/-! Whether all holds of a state: its run. -/
def sS (h : Nat → Int32) : Nat → Int32
  | 0 => nQ 0
  | k + 1 => sS h k + h k
theorem z0R (x : Int32) : x + nQ 0 = x := Int32.add_zero x
theorem z0L (x : Int32) : nQ 0 + x = x := Int32.zero_add x
theorem sS_cg {h h' : Nat → Int32} : ∀ k, (∀ a, a < k → h a = h' a) → sS h k = sS h' k
  | 0, _ => rfl
  | k + 1, e => by
    show sS h k + h k = sS h' k + h' k
    rw [sS_cg k (fun a ha => e a (Nat.lt_succ_of_lt ha)), e k (Nat.lt_succ_self k)]
theorem sS_0 {h : Nat → Int32} : ∀ k, (∀ a, a < k → h a = nQ 0) → sS h k = nQ 0
  | 0, _ => rfl
  | k + 1, e => by
    show sS h k + h k = nQ 0
    rw [sS_0 k (fun a ha => e a (Nat.lt_succ_of_lt ha)), e k (Nat.lt_succ_self k), z0R]
theorem sS_1 {h : Nat → Int32} {u : Nat} {z : Int32} : ∀ k, u < k → (∀ a, a < k → h a = if a = u then z else nQ 0) → sS h k = z
  | 0, hu, _ => absurd hu (Nat.not_lt_zero _)
  | k + 1, hu, e => by
    show sS h k + h k = z
    by_cases c : u = k
    · rw [sS_0 k (fun a ha => by rw [e a (Nat.lt_succ_of_lt ha), if_neg (by omega)]), e k (Nat.lt_succ_self k), if_pos c.symm, z0L]
    · rw [sS_1 k (by omega) (fun a ha => e a (Nat.lt_succ_of_lt ha)), e k (Nat.lt_succ_self k), if_neg (by omega), z0R]
theorem sS_ad (h h' : Nat → Int32) : ∀ k, sS (fun a => h a + h' a) k = sS h k + sS h' k
  | 0 => rfl
  | k + 1 => by
    show sS (fun a => h a + h' a) k + (h k + h' k) = sS h k + h k + (sS h' k + h' k)
    rw [sS_ad h h' k, Int32.add_assoc, Int32.add_assoc, ← Int32.add_assoc (sS h' k), Int32.add_comm (sS h' k) (h k), Int32.add_assoc (h k)]
theorem sS_sw {h e : Nat → Nat → Int32} {t : Nat → Int32} {m : Nat} (h0 : ∀ a, h a 0 = nQ 0) (hs : ∀ a n, h a (n + 1) = h a n + e a n) : ∀ n, (∀ i, i < n → sS (fun a => e a i) m = t i) → sS (fun a => h a n) m = sS t n
  | 0, _ => sS_0 m (fun a _ => h0 a)
  | n + 1, ht => by
    rw [sS_cg m (h' := fun a => h a n + e a n) (fun a _ => hs a n), sS_ad, sS_sw h0 hs n (fun i hi => ht i (Nat.lt_succ_of_lt hi)), ht n (Nat.lt_succ_self n)]
    rfl
def ttF (f : Nat → Int32) (r n : Nat) : Int32 := sS (fun i => if r = 0 then f (5 + 4 * i + 3) else nQ 1) n
theorem tt_1 (f : Nat → Int32) : ∀ n, ttF f 1 n = nQ n
  | 0 => rfl
  | n + 1 => by
    show ttF f 1 n + (if 1 = 0 then _ else nQ 1) = _
    rw [tt_1 f n, if_neg (by decide), nQ_add]
section Hp
variable {f : Nat → Int32} {n : Nat}
theorem tt_u (h : InvA f n) (r : Nat) : sS (fun a => usF f (nQ a) r n) 6 = ttF f r n := by
  refine sS_sw (h := fun a n => usF f (nQ a) r n) (fun a => rfl) (fun a n => usF_s f (nQ a) r n) n (fun i hi => ?_)
  obtain ⟨u, g, z, hu, hg, hz, e1, e2, e3⟩ := h.1 i hi
  refine sS_1 (u := u) 6 hu (fun a ha => ?_)
  skip
  have e : (f (5 + 4 * i + 1) = nQ a ∨ nQ 6 + f (5 + 4 * i + 2) = nQ a) ↔ a = u := by
    rw [e1, e2, nQ_add, nQ_eq (by omega) (by omega), nQ_eq (by omega) (by omega)]
    omega
  by_cases c : a = u
  · exact (if_pos (e.mpr c)).trans (if_pos c).symm
  · exact (if_neg (fun z => c (e.mp z))).trans (if_neg c).symm
theorem tt_g (h : InvA f n) (r : Nat) : sS (fun a => usF f (nQ (6 + a)) r n) 3 = ttF f r n := by
  refine sS_sw (h := fun a n => usF f (nQ (6 + a)) r n) (fun a => rfl) (fun a n => usF_s f (nQ (6 + a)) r n) n (fun i hi => ?_)
  obtain ⟨u, g, z, hu, hg, hz, e1, e2, e3⟩ := h.1 i hi
  refine sS_1 (u := g) 3 hg (fun a ha => ?_)
  have e : (f (5 + 4 * i + 1) = nQ (6 + a) ∨ nQ 6 + f (5 + 4 * i + 2) = nQ (6 + a)) ↔ a = g := by
    rw [e1, e2, nQ_add, nQ_eq (by omega) (by omega), nQ_eq (by omega) (by omega)]
    omega
  by_cases c : a = g
  · exact (if_pos (e.mpr c)).trans (if_pos c).symm
  · exact (if_neg (fun z => c (e.mp z))).trans (if_neg c).symm
theorem tt_d (h : GK f n) : sS (fun a => dzF f (nQ a) n) 10 = ttF f 0 n := by
  refine sS_sw (h := fun a n => dzF f (nQ a) n) (fun a => rfl) (fun a n => dz_s f (nQ a) n) n (fun i hi => ?_)
  obtain ⟨v, w, hv, hw, e1⟩ := h i hi
  refine sS_1 (u := v) 10 (by omega) (fun a ha => ?_)
  have e : (f (5 + 4 * i) / nQ 100 = nQ a) ↔ a = v := by
    rw [e1, nQ_div (by omega) (by decide), nQ_eq (by omega) (by omega)]
    omega
  by_cases c : a = v
  · exact (if_pos (e.mpr c)).trans (if_pos c).symm
  · exact (if_neg (fun z => c (e.mp z))).trans (if_neg c).symm
def tqN (a r : Nat) : Nat := if a < 6 then r else 2 + r
def sqF (f : Nat → Int32) (n q : Nat) : Nat → Int32 := sS (fun a => if q = tqN a 0 then usF f (nQ a) 0 n else if q = tqN a 1 then usF f (nQ a) 1 n else nQ 0)
theorem sq_s (f : Nat → Int32) (n q a : Nat) : sqF f n q (a + 1) = sqF f n q a + if q = tqN a 0 then usF f (nQ a) 0 n else if q = tqN a 1 then usF f (nQ a) 1 n else nQ 0 := rfl
theorem sq_e (h : InvA f n) : sqF f n 0 9 = ttF f 0 n ∧ sqF f n 1 9 = ttF f 1 n ∧ sqF f n 2 9 = ttF f 0 n ∧ sqF f n 3 9 = ttF f 1 n := by
  have lo : ∀ a r, a < 6 → tqN a r = r := fun a r ha => if_pos ha
  have hi : ∀ a r, ¬ a < 6 → tqN a r = 2 + r := fun a r ha => if_neg ha
  have U := tt_u h
  have G := tt_g h
  have s9 : ∀ q, sqF f n q 9 = sqF f n q 6 + (if q = tqN 6 0 then usF f (nQ 6) 0 n else if q = tqN 6 1 then usF f (nQ 6) 1 n else nQ 0) + (if q = tqN 7 0 then usF f (nQ 7) 0 n else if q = tqN 7 1 then usF f (nQ 7) 1 n else nQ 0) + (if q = tqN 8 0 then usF f (nQ 8) 0 n else if q = tqN 8 1 then usF f (nQ 8) 1 n else nQ 0) := fun q => rfl
  have q0 : ∀ q, q = 2 ∨ q = 3 → sqF f n q 6 = nQ 0 := fun q hq => sS_0 6 (fun a ha => by rw [lo a 0 ha, lo a 1 ha, if_neg (by omega), if_neg (by omega)])
  have g3 : ∀ r, nQ 0 + usF f (nQ 6) r n + usF f (nQ 7) r n + usF f (nQ 8) r n = ttF f r n := fun r => G r
  refine ⟨?_, ?_, ?_, ?_⟩
  · rw [s9, ← U 0, show sqF f n 0 6 = sS (fun a => usF f (nQ a) 0 n) 6 from sS_cg 6 (fun a ha => if_pos (lo a 0 ha).symm)]
    simp only [hi 6 _ (by decide), hi 7 _ (by decide), hi 8 _ (by decide), show (0 = 2 + 0) = False by decide, show (0 = 2 + 1) = False by decide, if_false, z0R]
  · rw [s9, ← U 1, show sqF f n 1 6 = sS (fun a => usF f (nQ a) 1 n) 6 from sS_cg 6 (fun a ha => by rw [lo a 0 ha, lo a 1 ha, if_neg (by decide), if_pos rfl])]
    simp only [hi 6 _ (by decide), hi 7 _ (by decide), hi 8 _ (by decide), show (1 = 2 + 0) = False by decide, show (1 = 2 + 1) = False by decide, if_false, z0R]
  · rw [s9, q0 2 (Or.inl rfl), ← g3 0]
    simp only [hi 6 _ (by decide), hi 7 _ (by decide), hi 8 _ (by decide), show (2 = 2 + 0) = True by decide, if_true]
  · rw [s9, q0 3 (Or.inr rfl), ← g3 1]
    simp only [hi 6 _ (by decide), hi 7 _ (by decide), hi 8 _ (by decide), show (3 = 2 + 0) = False by decide, show (3 = 2 + 1) = True by decide, if_true, if_false]
/-- the days that a running grace period has left -/
theorem gl_m {k : Nat} (hk : k < 18) (e : f (281 + k) = -1) : glF f (k / 2) (k - k / 2 * 2) = -1 := by
  unfold glF
  rw [(kx hk 281).2.2, if_pos e]
theorem gl_s {k s t z : Nat} (hk : k < 18) (hs : s ≤ t) (ht : t < 100000) (hz : z ≤ 60) (e : f (281 + k) = nQ s) (e0 : f 0 = nQ t) (eg : f (1 + (k - k / 2 * 2)) = nQ z) : glF f (k / 2) (k - k / 2 * 2) = nQ (z - (t - s)) := by
  unfold glF
  rw [(kx hk 281).2.2, e, e0, eg, if_neg (nQ_m1' (by omega)), nQ_sub hs]
  by_cases c : t - s ≤ z
  · rw [nQ_sub c, if_neg]
    rw [nQ_lt (by omega) (by decide)]
    omega
  · rw [if_pos, show z - (t - s) = 0 by omega]
    rw [Int32.lt_iff_toInt_lt, Int32.toInt_sub, nQ_int (by omega), nQ_int (by omega), nQ_int (by decide), Int.bmod_eq_of_le (by omega) (by omega)]
    omega
theorem ov_s {s t z r : Nat} (hs : s ≤ t) (ht : t < 100000) (hz : z ≤ 60) (e0 : f 0 = nQ t) (eg : f (1 + r) = nQ z) : ovF f (nQ s) (f 0) r ↔ z ≤ t - s := by
  unfold ovF
  rw [e0, eg, nQ_sub hs, nQ_lt (by omega) (by omega)]
  exact ⟨fun h => by omega, fun h => ⟨nQ_m1' (by omega), by omega⟩⟩
end Hp
