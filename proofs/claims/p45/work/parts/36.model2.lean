/-! The model's changes. -/
theorem re_le (f : Nat → Int32) (n : Nat) (ri : Nat → Int32) (u g : Nat) : ∀ (m e : Nat), e + m = 4 → reN f n ri u g m e ≤ 8
  | 0, _, _ => by unfold reN; omega
  | m + 1, e, h => by
    have hc : ceN f n ri u g e ≤ 2 := ca_le _ _ _ _ _
    have := re_le f n ri u g m (e + 1) (by omega)
    unfold reN
    split <;> omega
theorem ra_le (f : Nat → Int32) (n : Nat) (ri : Nat → Int32) (u g : Nat) : raN f n ri u g ≤ 8 := by
  unfold raN
  split
  · omega
  · exact re_le _ _ _ _ _ _ _ rfl
def riF (f : Nat → Int32) (x y z w : Int32) : Nat → Int32 := up (up (up (up f 0 x) 1 y) 2 z) 3 w
def rfF (f : Nat → Int32) (n : Nat) (ri : Nat → Int32) (u g : Nat) : Nat → Int32 :=
  if raN f n ri u g = 0 then f else lgF (up f (299 + acN ((raN f n ri u g - 1) / 2) u g) (f (299 + acN ((raN f n ri u g - 1) / 2) u g) + nQ 1)) (nQ 4) (nQ (acN ((raN f n ri u g - 1) / 2) u g)) (nQ ((raN f n ri u g - 1) / 2 - (raN f n ri u g - 1) / 2 / 2 * 2))
def crF (f : Nat → Int32) (n : Nat) (ri : Nat → Int32) (u g : Nat) (p z : Int32) : Nat → Int32 :=
  if raN f n ri u g = 0 then rvA (up (up (up (up (up f (5 + 4 * n) p) (5 + 4 * n + 1) (nQ u)) (5 + 4 * n + 2) (nQ g)) (5 + 4 * n + 3) z) 4 (nQ (n + 1))) (n + 1) 18 else rfF f n ri u g
section Me
variable {σ : Mem} {b : Nat} {d : Nat → Nat → Int32}
def rsF (f : Nat → Int32) (n : Nat) (ri : Nat → Int32) (u g i : Nat) (z : Int32) : Nat → Int32 :=
  if raN f n ri u g = 0 then rvA (up f (5 + 4 * i + 3) z) n 18 else rfF f n ri u g
abbrev moF (f : Nat → Int32) (i : Nat) (z : Int32) : Int32 := if f (5 + 4 * i + 3) < z then z - f (5 + 4 * i + 3) else nQ 0
abbrev edP (f : Nat → Int32) (k : Nat) : Prop := ¬ f (281 + k) = -1 ∧ f 0 - f (281 + k) = f (1 + (k - k / 2 * 2))
def edR (f : Nat → Int32) : Nat → Nat → Int32
  | 0 => f
  | k + 1 => if edP (edR f k) k then lgF (edR f k) (nQ 3) (nQ (k / 2)) (nQ (k - k / 2 * 2)) else edR f k
def edC (f : Nat → Int32) : Nat → Nat
  | 0 => 0
  | k + 1 => edC f k + if edP (edR f k) k then 1 else 0
theorem edR_s (f : Nat → Int32) (k : Nat) : edR f (k + 1) = if edP (edR f k) k then lgF (edR f k) (nQ 3) (nQ (k / 2)) (nQ (k - k / 2 * 2)) else edR f k := rfl
theorem edC_s (f : Nat → Int32) (k : Nat) : edC f (k + 1) = edC f k + if edP (edR f k) k then 1 else 0 := rfl
def dyR (f : Nat → Int32) : Nat → Nat → Int32
  | 0 => f
  | m + 1 => edR (up (dyR f m) 0 (dyR f m 0 + nQ 1)) 18
def dyC (f : Nat → Int32) : Nat → Nat
  | 0 => 0
  | m + 1 => dyC f m + edC (up (dyR f m) 0 (dyR f m 0 + nQ 1)) 18
theorem dyR_s (f : Nat → Int32) (m : Nat) : dyR f (m + 1) = edR (up (dyR f m) 0 (dyR f m 0 + nQ 1)) 18 := rfl
theorem dyC_s (f : Nat → Int32) (m : Nat) : dyC f (m + 1) = dyC f m + edC (up (dyR f m) 0 (dyR f m 0 + nQ 1)) 18 := rfl
end Me
