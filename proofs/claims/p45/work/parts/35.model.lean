/-! The model's small methods. -/
abbrev inP (v lo hi : Int32) : Prop := ¬ v < lo ∧ ¬ hi < v
theorem if_z {c : Prop} [Decidable c] : ((if c then nQ 1 else nQ 0) = nQ 0) = ¬ c := by
  by_cases h : c <;> simp only [h, if_true, if_false, q10, not_true_eq_false, not_false_eq_true]
theorem if_zo {c : Prop} [Decidable c] : ((if c then nQ 1 else nQ 0) = nQ 0 ∨ (if c then nQ 1 else nQ 0) = nQ 1) = True := by
  by_cases h : c <;> simp only [h, if_true, if_false, true_or, or_true]
def acN (e u g : Nat) : Nat := if e < 2 then u else 6 + g
theorem ac_lt {e u g : Nat} (hu : u < 6) (hg : g < 3) : acN e u g < 9 := by
  unfold acN
  split <;> omega
section Md
variable {σ : Mem} {b : Nat} {d : Nat → Nat → Int32}
abbrev ovF (f : Nat → Int32) (st dy : Int32) (r : Nat) : Prop := ¬ st = -1 ∧ ¬ dy - st < f (1 + r)
def caN (f : Nat → Int32) (k : Nat) (us by' : Int32) (ov : Prop) [Decidable ov] : Nat := if by' = nQ 0 then 0 else if ¬ f (263 + k) = nQ 0 ∧ f (263 + k) < us + by' then 1 else if ov ∧ f (245 + k) < us + by' then 2 else 0
theorem ca_le (f : Nat → Int32) (k : Nat) (us by' : Int32) (ov : Prop) [Decidable ov] : caN f k us by' ov ≤ 2 := by
  unfold caN
  repeat' split
  all_goals omega
/-- the place of a file, or -1 -/
def FaF (f : Nat → Int32) (n : Nat) (key v : Int32) : Prop := (∃ i, i < n ∧ v = nQ i ∧ f (5 + 4 * i) = key) ∨ (v = -1 ∧ ∀ i, i < n → ¬ f (5 + 4 * i) = key)
/-- the events, moved down by one from the end to a place -/
def shF (f : Nat → Int32) (k : Nat) : Nat → Int32 := fun i => if 309 + k < i ∧ i < 357 then f (i - 4) else f i
theorem sh_0 (f : Nat → Int32) : shF f 47 = f := by
  funext i
  exact if_neg (by omega)
theorem sh_s (f : Nat → Int32) {k : Nat} (h : 4 ≤ k) (h2 : k ≤ 47) : up (shF f k) (309 + k) (shF f k (309 + k - 4)) = shF f (k - 1) := by
  funext i
  by_cases hi : i = 309 + k
  · subst hi
    rw [up_s]
    show (if _ then _ else _) = if _ then _ else _
    rw [if_neg (by omega), if_pos (by omega)]
  · rw [up_n hi]
    show (if _ then _ else _) = if _ then _ else _
    by_cases h3 : 309 + k < i ∧ i < 357
    · rw [if_pos h3, if_pos (by omega)]
    · rw [if_neg h3, if_neg (by omega)]
def lgF (f : Nat → Int32) (k a r : Int32) : Nat → Int32 := fun i => if i = 308 then f 308 + (if f 308 < nQ 12 then nQ 1 else nQ 0) else if i = 309 then k else if i = 310 then a else if i = 311 then r else if i = 312 then f 0 else if 312 < i ∧ i < 357 then f (i - 4) else f i
theorem lg_of (f : Nat → Int32) (k a r : Int32) : up (up (up (up (up (shF f 3) 309 k) 310 a) 311 r) 312 (f 0)) 308 (f 308 + (if f 308 < nQ 12 then nQ 1 else nQ 0)) = lgF f k a r := by
  funext i
  unfold up lgF shF
  by_cases h1 : i = 308
  · simp only [h1, if_true]
  by_cases h2 : i = 309
  · simp only [h2, if_true, Nat.reduceEqDiff, if_false]
  by_cases h3 : i = 310
  · simp only [h3, if_true, Nat.reduceEqDiff, if_false]
  by_cases h4 : i = 311
  · simp only [h4, if_true, Nat.reduceEqDiff, if_false]
  by_cases h5 : i = 312
  · simp only [h5, if_true, Nat.reduceEqDiff, if_false]
  simp only [h1, h2, h3, h4, h5, if_false]
def rvF (f : Nat → Int32) (n a r : Nat) : Nat → Int32 :=
  if (¬ f (245 + (2 * a + r)) = nQ 0 ∧ f (245 + (2 * a + r)) < usF f (nQ a) r n) ∧ f (281 + (2 * a + r)) = -1 then lgF (up f (281 + (2 * a + r)) (f 0)) (nQ 1) (nQ a) (nQ r)
  else if ¬ (¬ f (245 + (2 * a + r)) = nQ 0 ∧ f (245 + (2 * a + r)) < usF f (nQ a) r n) ∧ ¬ f (281 + (2 * a + r)) = -1 then lgF (up f (281 + (2 * a + r)) (-1)) (nQ 2) (nQ a) (nQ r)
  else f
theorem rv_4 (f : Nat → Int32) (n a r : Nat) (hk : 2 * a + r < 18) : rvF f n a r 4 = f 4 := by
  unfold rvF
  repeat' split
  · exact up_n (by omega)
  · exact up_n (by omega)
  · rfl
def rvA (f : Nat → Int32) (n : Nat) : Nat → Nat → Int32
  | 0 => f
  | k + 1 => rvF (rvA f n k) n (k / 2) (k - k / 2 * 2)
theorem rvA_s (f : Nat → Int32) (n k : Nat) : rvA f n (k + 1) = rvF (rvA f n k) n (k / 2) (k - k / 2 * 2) := rfl
theorem rvA_4 (f : Nat → Int32) (n : Nat) : ∀ k, k ≤ 18 → rvA f n k 4 = f 4
  | 0, _ => rfl
  | k + 1, h => by rw [rvA_s, rv_4 _ _ _ _ (by omega)]; exact rvA_4 f n k (by omega)
abbrev frF (f : Nat → Int32) (u : Nat) : Prop := (f 3 >>> (nQ u &&& nQ 31)) &&& nQ 1 = nQ 1
def ceN (f : Nat → Int32) (n : Nat) (ri : Nat → Int32) (u g e : Nat) : Nat := caN f (2 * acN e u g + (e - e / 2 * 2)) (usF f (nQ (acN e u g)) (e - e / 2 * 2) n) (ri e) (ovF f (f (281 + (2 * acN e u g + (e - e / 2 * 2)))) (f 0) (e - e / 2 * 2))
def reN (f : Nat → Int32) (n : Nat) (ri : Nat → Int32) (u g : Nat) : Nat → Nat → Nat
  | 0, _ => 0
  | m + 1, e => if 0 < ceN f n ri u g e then 2 * e + ceN f n ri u g e else reN f n ri u g m (e + 1)
def raN (f : Nat → Int32) (n : Nat) (ri : Nat → Int32) (u g : Nat) : Nat := if frF f u then 0 else reN f n ri u g 4 0
end Md
