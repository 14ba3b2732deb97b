/-! The model's queries about files and about what would happen. -/
def oV : Option Nat → Int32
  | none => -1
  | some j => nQ j
abbrev btP (f : Nat → Int32) (j i : Nat) : Prop := nQ 0 < f (5 + 4 * i + 3) - f (5 + 4 * j + 3) ∨ (f (5 + 4 * i + 3) - f (5 + 4 * j + 3) = nQ 0 ∧ f (5 + 4 * i) < f (5 + 4 * j))
abbrev chP (f : Nat → Int32) (a : Int32) (i : Nat) : Prop := f (5 + 4 * i + 1) = a ∨ nQ 6 + f (5 + 4 * i + 2) = a
def laO (f e : Nat → Int32) (a : Int32) : Nat → Option Nat
  | 0 => none
  | i + 1 => match laO f e a i with
    | none => if chP f a i ∧ e i = nQ 0 then some i else none
    | some j => if btP f j i ∧ chP f a i ∧ e i = nQ 0 then some i else some j
theorem la_s (f e : Nat → Int32) (a : Int32) (i : Nat) : laO f e a (i + 1) = match laO f e a i with
    | none => if chP f a i ∧ e i = nQ 0 then some i else none
    | some j => if btP f j i ∧ chP f a i ∧ e i = nQ 0 then some i else some j := rfl
theorem la_lt (f e : Nat → Int32) (a : Int32) : ∀ n j, laO f e a n = some j → j < n
  | 0, j, h => by cases h
  | n + 1, j, h => by
    unfold laO at h
    split at h
    · split at h
      · have := Option.some.inj h; omega
      · cases h
    · next j' hj =>
      have := la_lt f e a n j' hj
      split at h <;> have := Option.some.inj h <;> omega
section Ml
variable {σ : Mem} {b : Nat} {d : Nat → Nat → Int32}
/-- how many more deletions -/
def fwN (f : Nat → Int32) (n : Nat) (a so : Int32) : Nat → (Nat → Int32) → Int32 → Option Nat
  | 0, _, _ => none
  | m + 1, e, us => if so = nQ 0 ∨ ¬ so < us then some 0 else match laO f e a n with
    | none => none
    | some j => (fwN f n a so m (up e j (nQ 1)) (us - f (5 + 4 * j + 3))).map (· + 1)
/-- what is told of a file -/
def toF (f : Nat → Int32) (n : Nat) (key : Int32) (w : Nat) (v : Int32) : Prop := (∃ i, i < n ∧ v = f (5 + 4 * i + w) ∧ f (5 + 4 * i) = key) ∨ (v = -1 ∧ ∀ i, i < n → ¬ f (5 + 4 * i) = key)
def dzF (f : Nat → Int32) (w : Int32) : Nat → Int32
  | 0 => nQ 0
  | n + 1 => dzF f w n + (if f (5 + 4 * n) / nQ 100 = w then f (5 + 4 * n + 3) else nQ 0)
theorem dz_s (f : Nat → Int32) (w : Int32) (n : Nat) : dzF f w (n + 1) = dzF f w n + (if f (5 + 4 * n) / nQ 100 = w then f (5 + 4 * n + 3) else nQ 0) := rfl
def lfF (f : Nat → Int32) (o : Option Nat) : Int32 := match o with
  | none => -1
  | some j => f (5 + 4 * j)
def rwF (f : Nat → Int32) (k : Nat) (us st dy : Int32) : Int32 := if ¬ f (245 + k) = nQ 0 ∧ f (245 + k) < us then (if st = -1 then dy else st) else -1
def drF (f : Nat → Int32) (u g : Nat) (z : Int32) : Nat → Nat → Int32 → Int32 → Int32 → Int32 → Int32
  | 0, _, _, _, _, _ => -1
  | m + 1, i, us, uo, st, so => if 0 < caN f (2 * u) us z (ovF f st (f 0 + nQ i) 0) + caN f (2 * (6 + g)) uo z (ovF f so (f 0 + nQ i) 0) then nQ i
    else drF f u g z m (i + 1) (us + z) (uo + z) (rwF f (2 * u) (us + z) st (f 0 + nQ i)) (rwF f (2 * (6 + g)) (uo + z) so (f 0 + nQ i))
abbrev gcP (f : Nat → Int32) (o : Bool) (k : Nat) : Prop := if o = true then ovF f (f (281 + k)) (f 0) (k - k / 2 * 2) else ¬ f (281 + k) = -1
def gcN (f : Nat → Int32) (o : Bool) : Nat → Nat
  | 0 => 0
  | k + 1 => gcN f o k + if gcP f o k then 1 else 0
theorem gc_s (f : Nat → Int32) (o : Bool) (k : Nat) : gcN f o (k + 1) = gcN f o k + if gcP f o k then 1 else 0 := rfl
end Ml
