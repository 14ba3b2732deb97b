/-! Numbers as indexes; a block of rows. -/
theorem nQ_nat {n : Nat} (h : n < 2147483648) : (nQ n).toNatClampNeg = n := Int32.toNatClampNeg_ofNat_of_lt h
theorem nQ_int {n : Nat} (h : n < 2147483648) : (nQ n).toInt = n := Int32.toInt_ofNat_of_lt h
theorem nQ_add (a b : Nat) : nQ a + nQ b = nQ (a + b) := (Int32.ofNat_add a b).symm
theorem nQ_mul (a b : Nat) : nQ a * nQ b = nQ (a * b) := (Int32.ofNat_mul a b).symm
theorem nQ_lt {a b : Nat} (ha : a < 2147483648) (hb : b < 2147483648) : (nQ a < nQ b) = (a < b) := by
  rw [Int32.lt_iff_toInt_lt, nQ_int ha, nQ_int hb]
  exact propext ⟨fun h => by omega, fun h => by omega⟩
theorem nQ_eq {a b : Nat} (ha : a < 2147483648) (hb : b < 2147483648) : (nQ a = nQ b) = (a = b) := by
  refine propext ⟨fun h => ?_, fun h => by rw [h]⟩
  have := congrArg Int32.toNatClampNeg h
  rwa [nQ_nat ha, nQ_nat hb] at this
theorem nQ_z : nQ 0 = 0 := rfl
theorem nQ_neg {a : Nat} (ha : a < 2147483648) : (nQ a < 0) = False := by
  rw [← nQ_z, nQ_lt ha (by decide)]
  exact propext ⟨fun h => by omega, fun h => h.elim⟩
theorem leF {m n : Nat} (h : n < m) : (m ≤ n) = False := propext ⟨fun h' => by omega, fun h => h.elim⟩
theorem ltT {m n : Nat} (h : m < n) : (m < n) = True := propext ⟨fun _ => trivial, fun _ => h⟩
theorem ltF {m n : Nat} (h : n ≤ m) : (m < n) = False := propext ⟨fun h' => by omega, fun h => h.elim⟩
theorem nQ_sub {a b : Nat} (h : b ≤ a) : nQ a - nQ b = nQ (a - b) := by
  have : nQ a = nQ (a - b) + nQ b := by rw [nQ_add]; congr 1; omega
  rw [this, Int32.add_sub_cancel]
theorem nQ_pred (n : Nat) : nQ (n + 1) + (-1) = nQ n := by
  rw [← nQ_add]
  show nQ n + nQ 1 + (-1) = _
  rw [Int32.add_assoc, show nQ 1 + (-1) = 0 by decide, Int32.add_zero]
theorem nQ_div {a b : Nat} (ha : a < 2147483648) (hb : b < 2147483648) : nQ a / nQ b = nQ (a / b) := by
  apply Int32.toInt_inj.mp
  rw [Int32.toInt_div, nQ_int ha, nQ_int hb, nQ_int (Nat.lt_of_le_of_lt (Nat.div_le_self a b) ha)]
  have e : ((a : Int).tdiv b) = ((a / b : Nat) : Int) := rfl
  rw [e]
  have hq := Nat.div_le_self a b
  generalize a / b = q at hq
  rw [Int.bmod_eq_of_le] <;> omega
def up (f : Nat → Int32) (j : Nat) (x : Int32) : Nat → Int32 := fun i => if i = j then x else f i
def rX (d : Nat → Nat → Int32) (u : Nat) (f : Nat → Int32) : Nat → Nat → Int32 := fun a => if a = u then f else d a
theorem up_s (f : Nat → Int32) (j : Nat) (x : Int32) : up f j x j = x := if_pos rfl
theorem up_n {f : Nat → Int32} {j i : Nat} {x : Int32} (h : ¬ i = j) : up f j x i = f i := if_neg h
theorem rX_s (d : Nat → Nat → Int32) (u : Nat) (f : Nat → Int32) : rX d u f u = f := if_pos rfl
theorem rX_n {d : Nat → Nat → Int32} {u v : Nat} {f : Nat → Int32} (h : ¬ v = u) : rX d u f v = d v := if_neg h
theorem rX_r (d : Nat → Nat → Int32) (u : Nat) (f g : Nat → Int32) : rX (rX d u f) u g = rX d u g := by
  funext a
  by_cases h : a = u <;> simp only [rX, h, if_true, if_false]
theorem rX_i (d : Nat → Nat → Int32) (u : Nat) : rX d u (d u) = d := by
  funext a
  by_cases h : a = u <;> simp only [rX, h, if_true, if_false]
def sB (n : Nat) (σ : Mem) (b : Nat) (d : Nat → Nat → Int32) : Mem := (σ.1, σ.2.1, (fun a i => if b ≤ a ∧ a < b + n then d (a - b) i else σ.2.2.1 a i), σ.2.2.2)
theorem tk_sB {n : Nat} {σ : Mem} {b : Nat} {d : Nat → Nat → Int32} : tkM (sB n σ b d) = tkM σ := rfl
theorem pr_sB {n : Nat} {σ : Mem} {b : Nat} {d : Nat → Nat → Int32} : prM (sB n σ b d) = prM σ := rfl
theorem tk_wr {σ : Mem} {v j : Nat} {x : Int32} : tkM (wrM σ v j x) = tkM σ := rfl
theorem pr_wr {σ : Mem} {v j : Nat} {x : Int32} : prM (wrM σ v j x) = prM σ := rfl
theorem rd_sB {n : Nat} {σ : Mem} {b u : Nat} {d : Nat → Nat → Int32} (h : u < n) (j : Nat) : rdM (sB n σ b d) (b + u) j = d u j := by
  show (if b ≤ b + u ∧ b + u < b + n then d (b + u - b) j else _) = _
  rw [if_pos ⟨by omega, by omega⟩, Nat.add_sub_cancel_left]
theorem rd_sB0 {n : Nat} {σ : Mem} {b : Nat} {d : Nat → Nat → Int32} (h : 0 < n) (j : Nat) : rdM (sB n σ b d) b j = d 0 j := rd_sB (u := 0) h j
theorem wr_sB {n : Nat} {σ : Mem} {b u : Nat} {d : Nat → Nat → Int32} (h : u < n) (j : Nat) (x : Int32) : wrM (sB n σ b d) (b + u) j x = sB n σ b (rX d u (up (d u) j x)) := by
  show (σ.1, σ.2.1, _, σ.2.2.2) = (σ.1, σ.2.1, _, σ.2.2.2)
  congr 3
  funext a i
  show (if a = b + u ∧ i = j then x else if b ≤ a ∧ a < b + n then d (a - b) i else σ.2.2.1 a i) = if b ≤ a ∧ a < b + n then (if a - b = u then (fun i => if i = j then x else d u i) else d (a - b)) i else σ.2.2.1 a i
  by_cases h1 : b ≤ a ∧ a < b + n
  · rw [if_pos h1, if_pos h1]
    by_cases h2 : a = b + u
    · rw [if_pos (by omega : a - b = u)]
      by_cases h3 : i = j
      · rw [if_pos ⟨h2, h3⟩]; exact (if_pos h3).symm
      · rw [if_neg (fun h => h3 h.2), show a - b = u by omega]; exact (if_neg h3).symm
    · rw [if_neg (fun h => h2 h.1), if_neg (by omega : ¬ a - b = u)]
  · rw [if_neg h1, if_neg h1, if_neg (fun h2 => h1 (by omega))]
theorem wr_sB0 {n : Nat} {σ : Mem} {b : Nat} {d : Nat → Nat → Int32} (h : 0 < n) (j : Nat) (x : Int32) : wrM (sB n σ b d) b j x = sB n σ b (rX d 0 (up (d 0) j x)) := wr_sB (u := 0) h j x
theorem cn_l (v : Option Value) (σ : Mem) (f : Option Value → Mem → Option OutM) (g : Nat → Mem → Option OutM) : cnM (some (.inl v, σ)) f g = f v σ := rfl
theorem cn_r (E : Nat) (σ : Mem) (f : Option Value → Mem → Option OutM) (g : Nat → Mem → Option OutM) : cnM (some (.inr E, σ)) f g = g E σ := rfl
theorem zb_0 : (nQ 0 = nQ 0 ∨ nQ 0 = nQ 1) = True := by simp
theorem zb_1 : (nQ 1 = nQ 0 ∨ nQ 1 = nQ 1) = True := by simp
theorem q10 : (nQ 1 = nQ 0) = False := by rw [nQ_eq (by decide) (by decide)]; simp
def usF (f : Nat → Int32) (a : Int32) (r : Nat) : Nat → Int32
  | 0 => nQ 0
  | n + 1 => usF f a r n + if f (5 + 4 * n + 1) = a ∨ nQ 6 + f (5 + 4 * n + 2) = a then (if r = 0 then f (5 + 4 * n + 3) else nQ 1) else nQ 0
theorem usF_s (f : Nat → Int32) (a : Int32) (r n : Nat) : usF f a r (n + 1) = usF f a r n + if f (5 + 4 * n + 1) = a ∨ nQ 6 + f (5 + 4 * n + 2) = a then (if r = 0 then f (5 + 4 * n + 3) else nQ 1) else nQ 0 := rfl
