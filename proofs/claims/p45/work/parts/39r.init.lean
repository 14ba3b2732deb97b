/-! The constructors. -/
def bM (n : Nat) (σ : Mem) (b : Nat) (κ : Nat → Nat × Nat) (d : Nat → Nat → Int32) (P : Nat → Nat → Nat) : Mem := ((fun a => if b ≤ a ∧ a < b + n then κ (a - b) else σ.1 a), b + n, (fun a i => if b ≤ a ∧ a < b + n then d (a - b) i else σ.2.2.1 a i), fun a i => if b ≤ a ∧ a < b + n then P (a - b) i else σ.2.2.2 a i)
def uK (κ : Nat → Nat × Nat) (u : Nat) (x : Nat × Nat) : Nat → Nat × Nat := fun v => if v = u then x else κ v
def uP (P : Nat → Nat → Nat) (u j x : Nat) : Nat → Nat → Nat := fun v i => if v = u ∧ i = j then x else P v i
def uZ (P : Nat → Nat → Nat) (u : Nat) : Nat → Nat → Nat := fun v i => if v = u then 0 else P v i
theorem bM_self {n : Nat} {σ : Mem} {b : Nat} (h : nxM σ = b + n) : bM n σ b (fun u => tkM σ (b + u)) (rw_ σ b) (fun u => prM σ (b + u)) = σ := by
  have e1 : (fun a => if b ≤ a ∧ a < b + n then σ.1 (b + (a - b)) else σ.1 a) = σ.1 := by
    funext a
    split
    · next c => rw [show b + (a - b) = a by omega]
    · rfl
  have e2 : (fun a i => if b ≤ a ∧ a < b + n then σ.2.2.1 (b + (a - b)) i else σ.2.2.1 a i) = σ.2.2.1 := by
    funext a i
    split
    · next c => rw [show b + (a - b) = a by omega]
    · rfl
  have e3 : (fun a i => if b ≤ a ∧ a < b + n then σ.2.2.2 (b + (a - b)) i else σ.2.2.2 a i) = σ.2.2.2 := by
    funext a i
    split
    · next c => rw [show b + (a - b) = a by omega]
    · rfl
  show ((fun a => if b ≤ a ∧ a < b + n then σ.1 (b + (a - b)) else σ.1 a), b + n, (fun a i => if b ≤ a ∧ a < b + n then σ.2.2.1 (b + (a - b)) i else σ.2.2.1 a i), fun a i => if b ≤ a ∧ a < b + n then σ.2.2.2 (b + (a - b)) i else σ.2.2.2 a i) = σ
  rw [e1, e2, e3, ← h]
  rfl
section Ia
variable {n : Nat} {σ : Mem} {b : Nat} {κ : Nat → Nat × Nat} {d : Nat → Nat → Int32} {P : Nat → Nat → Nat}
theorem nx_b : nxM (bM n σ b κ d P) = b + n := rfl
theorem tk_b {u : Nat} (h : u < n) : tkM (bM n σ b κ d P) (b + u) = κ u := by
  show (if b ≤ b + u ∧ b + u < b + n then κ (b + u - b) else σ.1 (b + u)) = _
  rw [if_pos ⟨by omega, by omega⟩, Nat.add_sub_cancel_left]
theorem tk_b0 (h : 0 < n) : tkM (bM n σ b κ d P) b = κ 0 := tk_b (u := 0) h
theorem pr_b {u : Nat} (h : u < n) (j : Nat) : prM (bM n σ b κ d P) (b + u) j = P u j := by
  show (if b ≤ b + u ∧ b + u < b + n then P (b + u - b) j else σ.2.2.2 (b + u) j) = _
  rw [if_pos ⟨by omega, by omega⟩, Nat.add_sub_cancel_left]
theorem pr_b0 (h : 0 < n) (j : Nat) : prM (bM n σ b κ d P) b j = P 0 j := pr_b (u := 0) h j
theorem rd_b {u : Nat} (h : u < n) (j : Nat) : rdM (bM n σ b κ d P) (b + u) j = d u j := by
  show (if b ≤ b + u ∧ b + u < b + n then d (b + u - b) j else σ.2.2.1 (b + u) j) = _
  rw [if_pos ⟨by omega, by omega⟩, Nat.add_sub_cancel_left]
theorem nw_b (k l : Nat) : nwM (bM n σ b κ d P) k l = bM (n + 1) σ b (uK κ n (k, l)) (rX d n (fun _ => 0)) (uZ P n) := by
  show ((fun a => if a = b + n then (k, l) else if b ≤ a ∧ a < b + n then κ (a - b) else σ.1 a), b + n + 1, (fun a i => if a = b + n then 0 else if b ≤ a ∧ a < b + n then d (a - b) i else σ.2.2.1 a i), fun a i => if a = b + n then 0 else if b ≤ a ∧ a < b + n then P (a - b) i else σ.2.2.2 a i) = ((fun a => if b ≤ a ∧ a < b + (n + 1) then (if a - b = n then (k, l) else κ (a - b)) else σ.1 a), b + (n + 1), (fun a i => if b ≤ a ∧ a < b + (n + 1) then (if a - b = n then (fun _ => 0) else d (a - b)) i else σ.2.2.1 a i), fun a i => if b ≤ a ∧ a < b + (n + 1) then (if a - b = n then 0 else P (a - b) i) else σ.2.2.2 a i)
  have e1 : (fun a => if a = b + n then (k, l) else if b ≤ a ∧ a < b + n then κ (a - b) else σ.1 a) = fun a => if b ≤ a ∧ a < b + (n + 1) then (if a - b = n then (k, l) else κ (a - b)) else σ.1 a := by
    funext a
    by_cases c : a = b + n
    · rw [if_pos c, if_pos (by omega), if_pos (by omega)]
    · rw [if_neg c]
      by_cases c2 : b ≤ a ∧ a < b + n
      · rw [if_pos c2, if_pos (by omega), if_neg (by omega)]
      · rw [if_neg c2, if_neg (by omega)]
  have e2 : (fun a i => if a = b + n then (0 : Int32) else if b ≤ a ∧ a < b + n then d (a - b) i else σ.2.2.1 a i) = fun a i => if b ≤ a ∧ a < b + (n + 1) then (if a - b = n then (fun _ => (0 : Int32)) else d (a - b)) i else σ.2.2.1 a i := by
    funext a i
    by_cases c : a = b + n
    · rw [if_pos c, if_pos (by omega), if_pos (by omega)]
    · rw [if_neg c]
      by_cases c2 : b ≤ a ∧ a < b + n
      · rw [if_pos c2, if_pos (by omega), if_neg (by omega)]
      · rw [if_neg c2, if_neg (by omega)]
  have e3 : (fun a i => if a = b + n then 0 else if b ≤ a ∧ a < b + n then P (a - b) i else σ.2.2.2 a i) = fun a i => if b ≤ a ∧ a < b + (n + 1) then (if a - b = n then 0 else P (a - b) i) else σ.2.2.2 a i := by
    funext a i
    by_cases c : a = b + n
    · rw [if_pos c, if_pos (by omega), if_pos (by omega)]
    · rw [if_neg c]
      by_cases c2 : b ≤ a ∧ a < b + n
      · rw [if_pos c2, if_pos (by omega), if_neg (by omega)]
      · rw [if_neg c2, if_neg (by omega)]
  rw [e1, e2, e3]
  rfl
theorem wr_b {u : Nat} (h : u < n) (j : Nat) (x : Int32) : wrM (bM n σ b κ d P) (b + u) j x = bM n σ b κ (rX d u (up (d u) j x)) P := by
  show (_, _, (fun a i => if a = b + u ∧ i = j then x else if b ≤ a ∧ a < b + n then d (a - b) i else σ.2.2.1 a i), _) = (_, _, (fun a i => if b ≤ a ∧ a < b + n then (if a - b = u then (fun i => if i = j then x else d u i) else d (a - b)) i else σ.2.2.1 a i), _)
  congr 3
  funext a i
  by_cases h1 : b ≤ a ∧ a < b + n
  · rw [if_pos h1, if_pos h1]
    by_cases h2 : a = b + u
    · rw [if_pos (by omega : a - b = u)]
      by_cases h3 : i = j
      · rw [if_pos ⟨h2, h3⟩]; exact (if_pos h3).symm
      · rw [if_neg (fun h => h3 h.2), show a - b = u by omega]; exact (if_neg h3).symm
    · rw [if_neg (fun h => h2 h.1), if_neg (by omega : ¬ a - b = u)]
  · rw [if_neg h1, if_neg h1, if_neg (fun h2 => h1 (by omega))]
theorem wr_b0 (h : 0 < n) (j : Nat) (x : Int32) : wrM (bM n σ b κ d P) b j x = bM n σ b κ (rX d 0 (up (d 0) j x)) P := wr_b (u := 0) h j x
theorem wp_b {u : Nat} (h : u < n) (j x : Nat) : wpM (bM n σ b κ d P) (b + u) j x = bM n σ b κ d (uP P u j x) := by
  show (_, _, _, fun a i => if a = b + u ∧ i = j then x else if b ≤ a ∧ a < b + n then P (a - b) i else σ.2.2.2 a i) = (_, _, _, fun a i => if b ≤ a ∧ a < b + n then (if a - b = u ∧ i = j then x else P (a - b) i) else σ.2.2.2 a i)
  congr 3
  funext a i
  by_cases h1 : b ≤ a ∧ a < b + n
  · rw [if_pos h1, if_pos h1]
    by_cases h2 : a = b + u ∧ i = j
    · rw [if_pos h2, if_pos ⟨by omega, h2.2⟩]
    · rw [if_neg h2, if_neg (fun z => h2 ⟨by omega, z.2⟩)]
  · rw [if_neg h1, if_neg h1, if_neg (fun h2 => h1 (by omega))]
theorem wp_b0 (h : 0 < n) (j x : Nat) : wpM (bM n σ b κ d P) b j x = bM n σ b κ d (uP P 0 j x) := wp_b (u := 0) h j x
end Ia
theorem uK_s (κ : Nat → Nat × Nat) (u : Nat) (x : Nat × Nat) : uK κ u x u = x := if_pos rfl
theorem uK_n {κ : Nat → Nat × Nat} {u v : Nat} {x : Nat × Nat} (h : ¬ v = u) : uK κ u x v = κ v := if_neg h
theorem uP_s (P : Nat → Nat → Nat) (u j x : Nat) : uP P u j x u j = x := if_pos ⟨rfl, rfl⟩
theorem uP_n {P : Nat → Nat → Nat} {u j x v i : Nat} (h : ¬ (v = u ∧ i = j)) : uP P u j x v i = P v i := if_neg h
theorem uZ_n {P : Nat → Nat → Nat} {u v : Nat} (h : ¬ v = u) (i : Nat) : uZ P u v i = P v i := if_neg h
/-- a state as it is made -/
def NwS (d : Nat → Nat → Int32) : Prop := d 0 0 = nQ 0 ∧ (∀ r, r < 2 → d 1 r = nQ 7) ∧ (∀ u, d 2 u = nQ 0) ∧ (∀ k, d 3 k = nQ 0 ∧ d 4 k = nQ 0 ∧ d 5 k = nQ 0) ∧ (∀ k, k < 18 → d 6 k = -1) ∧ (∀ a, d 7 a = nQ 0) ∧ d 8 0 = nQ 0 ∧ d 13 0 = nQ 0 ∧ d 13 1 = nQ 0
