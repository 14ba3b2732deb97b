/-! The law's small methods: cells, ups, digests. -/
def upN (v : Int32) (n : Nat) : Nat := (v.toBitVec.toNat &&& 2147483647) % n
theorem msk (v : Int32) : v &&& nQ 2147483647 = nQ (v.toBitVec.toNat &&& 2147483647) := by
  apply Int32.toBitVec_inj.mp
  apply BitVec.eq_of_toNat_eq
  have h : v.toBitVec.toNat &&& 2147483647 ≤ 2147483647 := Nat.and_le_right
  show (v.toBitVec &&& (2147483647 : BitVec 32)).toNat = (BitVec.ofNat 32 (v.toBitVec.toNat &&& 2147483647)).toNat
  rw [BitVec.toNat_and, BitVec.toNat_ofNat, Nat.mod_eq_of_lt (by omega)]
  rfl
theorem up_lt (v : Int32) {n : Nat} (h : 0 < n) : upN v n < n := Nat.mod_lt _ h
theorem up_c {σ : Mem} (v : Int32) {n : Nat} (h : 0 < n) (h2 : n < 2147483648) : DoM 105 [.int v, .int (nQ n)] σ = some (.inl (some (.int (nQ (upN v n)))), σ) := by
  refine (g105_0).trans ?_
  have h0 : (nQ n = nQ 0) = False := by rw [nQ_eq h2 (by decide)]; exact eq_false (by omega)
  have hm : v.toBitVec.toNat &&& 2147483647 ≤ 2147483647 := Nat.and_le_right
  simp only [h0, if_false]
  rw [msk]
  unfold upN
  generalize v.toBitVec.toNat &&& 2147483647 = m at hm ⊢
  have e : m - m / n * n = m % n := by
    have := Nat.div_add_mod m n
    rw [Nat.mul_comm] at this
    omega
  rw [nQ_div (by omega) h2, nQ_mul, nQ_sub (by rw [Nat.mul_comm]; exact Nat.mul_div_le m n), e]
theorem cell_c {L : Nat} {xs : Nat → Int32} {τ : Mem} (h : tkM τ 1 = (2, L)) (hL : L ≤ 260) {k : Nat} (hk : k < 1000) : ∃ v, DoM 104 [.ref 1, .int (nQ k)] τ = some (.inl (some (.int v)), τ) := by
  by_cases c : k < L
  · refine ⟨rdM τ 1 k, (g104_0).trans ?_⟩
    simp (disch := omega) only [aOk, h, nQ_lt, nQ_nat, nQ_neg, leF, c, if_true, if_false, true_and, and_true, or_false, false_or, not_false_eq_true, g104_20]
  · refine ⟨nQ 1812433253 * (nQ k + nQ 131), (g104_0).trans ?_⟩
    simp (disch := omega) only [h, nQ_lt, c, if_true, if_false, g104_20]
abbrev kQL : Int64 := (nQ 31).toInt64
def q1O (us st so ha : Nat → Int32) (h0 : Int64) : Nat → Int64
  | 0 => h0
  | k + 1 => kQL * (kQL * (kQL * (kQL * q1O us st so ha h0 k + (us k).toInt64) + (st k).toInt64) + (so k).toInt64) + (ha k).toInt64
def q2O (sz ow gr : Nat → Int32) (h0 : Int64) : Nat → Int64
  | 0 => h0
  | k + 1 => kQL * (kQL * (kQL * q2O sz ow gr h0 k + (sz k).toInt64) + (ow k).toInt64) + (gr k).toInt64
def q3O (ex : Nat → Int32) (h0 : Int64) : Nat → Int64
  | 0 => h0
  | k + 1 => kQL * q3O ex h0 k + (ex k).toInt64
def quO (dy : Int32) (us st so ha sz ow gr ex : Nat → Int32) (cn g0 g1 : Int32) : Int64 :=
  kQL * (kQL * q3O ex (q2O sz ow gr (q1O us st so ha ((nQ 29).toInt64 + dy.toInt64) 18) 20) 6 + cn.toInt64) + (nQ 100 * g0).toInt64 + g1.toInt64
theorem q1_cg {us st so ha us' st' so' ha' : Nat → Int32} {h0 : Int64} : ∀ m, (∀ k, k < m → us' k = us k ∧ st' k = st k ∧ so' k = so k ∧ ha' k = ha k) → q1O us' st' so' ha' h0 m = q1O us st so ha h0 m
  | 0, _ => rfl
  | m + 1, h => by
    obtain ⟨a1, a2, a3, a4⟩ := h m (Nat.lt_succ_self m)
    unfold q1O
    rw [q1_cg m (fun k hk => h k (Nat.lt_succ_of_lt hk)), a1, a2, a3, a4]
theorem q2_cg {sz ow gr sz' ow' gr' : Nat → Int32} {h0 : Int64} : ∀ m, (∀ k, k < m → sz' k = sz k ∧ ow' k = ow k ∧ gr' k = gr k) → q2O sz' ow' gr' h0 m = q2O sz ow gr h0 m
  | 0, _ => rfl
  | m + 1, h => by
    obtain ⟨a1, a2, a3⟩ := h m (Nat.lt_succ_self m)
    unfold q2O
    rw [q2_cg m (fun k hk => h k (Nat.lt_succ_of_lt hk)), a1, a2, a3]
theorem q3_cg {ex ex' : Nat → Int32} {h0 : Int64} : ∀ m, (∀ k, k < m → ex' k = ex k) → q3O ex' h0 m = q3O ex h0 m
  | 0, _ => rfl
  | m + 1, h => by
    unfold q3O
    rw [q3_cg m (fun k hk => h k (Nat.lt_succ_of_lt hk)), h m (Nat.lt_succ_self m)]
section Qt
variable {τ : Mem} {us st so ha sz ow gr ex : Nat → Int32} {dy cn g0 g1 : Int32}
theorem qu_1 (w1 : tkM τ 8 = (1, 4)) (hus : ∀ k, k < 18 → DoM 61 [.ref 8, .int (nQ (k / 2)), .int (nQ (k - k / 2 * 2))] τ = some (.inl (some (.int (us k))), τ)) (hst : ∀ k, k < 18 → DoM 65 [.ref 8, .int (nQ (k / 2)), .int (nQ (k - k / 2 * 2))] τ = some (.inl (some (.int (st k))), τ)) (hso : ∀ k, k < 18 → DoM 63 [.ref 8, .int (nQ (k / 2)), .int (nQ (k - k / 2 * 2))] τ = some (.inl (some (.int (so k))), τ)) (hha : ∀ k, k < 18 → DoM 64 [.ref 8, .int (nQ (k / 2)), .int (nQ (k - k / 2 * 2))] τ = some (.inl (some (.int (ha k))), τ)) (h0 : Int64) : ∀ (m i : Nat), i + m = 18 → RuM 106 (12, [some (.ref 8), some (.long (q1O us st so ha h0 i)), none, some (.int (nQ i))], [], 0, 0) τ = RuM 106 (94, [some (.ref 8), some (.long (q1O us st so ha h0 18)), none, some (.int (nQ 0))], [], 0, 0) τ := by
  intro m
  induction m with
  | zero =>
    intro i e
    obtain rfl : i = 18 := e
    rw [g106_12]
    simp (disch := omega) only [nQ_lt, Nat.lt_irrefl, if_false]
  | succ m ih =>
    intro i e
    have hi : i < 18 := by omega
    rw [← ih (i + 1) (by omega), g106_12]
    simp (disch := omega) only [nQ_lt, hi, w1, nQ_div, nQ_mul, nQ_sub, nQ_add, hus i hi, hst i hi, hso i hi, hha i hi, cn_l, Option.toList, List.cons_append, List.nil_append, if_true, g106_36, g106_49, g106_70, g106_83]
    rfl
theorem qu_2 (w1 : tkM τ 8 = (1, 4)) (hsz : ∀ k, k < 20 → DoM 70 [.ref 8, .int (nQ (k / 10)), .int (nQ (k - k / 10 * 10))] τ = some (.inl (some (.int (sz k))), τ)) (how : ∀ k, k < 20 → DoM 71 [.ref 8, .int (nQ (k / 10)), .int (nQ (k - k / 10 * 10))] τ = some (.inl (some (.int (ow k))), τ)) (hgr : ∀ k, k < 20 → DoM 72 [.ref 8, .int (nQ (k / 10)), .int (nQ (k - k / 10 * 10))] τ = some (.inl (some (.int (gr k))), τ)) (h0 : Int64) : ∀ (m i : Nat), i + m = 20 → RuM 106 (94, [some (.ref 8), some (.long (q2O sz ow gr h0 i)), none, some (.int (nQ i))], [], 0, 0) τ = RuM 106 (164, [some (.ref 8), some (.long (q2O sz ow gr h0 20)), none, some (.int (nQ 0))], [], 0, 0) τ := by
  intro m
  induction m with
  | zero =>
    intro i e
    obtain rfl : i = 20 := e
    rw [g106_94]
    simp (disch := omega) only [nQ_lt, Nat.lt_irrefl, if_false]
  | succ m ih =>
    intro i e
    have hi : i < 20 := by omega
    rw [← ih (i + 1) (by omega), g106_94]
    simp (disch := omega) only [nQ_lt, hi, w1, nQ_div, nQ_mul, nQ_sub, nQ_add, hsz i hi, how i hi, hgr i hi, cn_l, Option.toList, List.cons_append, List.nil_append, if_true, g106_123, g106_138, g106_153]
    rfl
theorem qu_3 (w1 : tkM τ 8 = (1, 4)) (hex : ∀ k, k < 6 → DoM 80 [.ref 8, .int (nQ k)] τ = some (.inl (some (.int (ex k))), τ)) (h01 : ∀ k, k < 6 → ex k = nQ 0 ∨ ex k = nQ 1) (hcn : DoM 73 [.ref 8] τ = some (.inl (some (.int cn)), τ)) (hg0 : DoM 79 [.ref 8, .int (nQ 0)] τ = some (.inl (some (.int g0)), τ)) (hg1 : DoM 79 [.ref 8, .int (nQ 1)] τ = some (.inl (some (.int g1)), τ)) (h0 : Int64) : ∀ (m i : Nat), i + m = 6 → RuM 106 (164, [some (.ref 8), some (.long (q3O ex h0 i)), none, some (.int (nQ i))], [], 0, 0) τ = some (.inl (some (.long (kQL * (kQL * q3O ex h0 6 + cn.toInt64) + (nQ 100 * g0).toInt64 + g1.toInt64))), τ) := by
  intro m
  induction m with
  | zero =>
    intro i e
    obtain rfl : i = 6 := e
    rw [g106_164]
    simp (disch := omega) only [nQ_lt, Nat.lt_irrefl, if_false, w1, hcn, hg0, hg1, cn_l, Option.toList, List.cons_append, List.nil_append, if_true, g106_209, g106_219, g106_227]
  | succ m ih =>
    intro i e
    have hi : i < 6 := by omega
    rw [← ih (i + 1) (by omega), g106_164]
    simp (disch := omega) only [nQ_lt, hi, w1, nQ_add, hex i hi, cn_l, Option.toList, List.cons_append, List.nil_append, if_true, g106_180]
    rcases h01 i hi with e1 | e1 <;> simp only [e1, if_true, if_false, q10, g106_188, nQ_add, q3O]
end Qt
