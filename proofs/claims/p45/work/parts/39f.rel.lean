/-! The class's states: their shape, their files as lists, their log. -/
def ShS (σ : Mem) (b : Nat) : Prop := 8 ≤ b ∧ (tkM σ b = (1, 2) ∧ tkM σ (b + 8) = (1, 1) ∧ tkM σ (b + 13) = (1, 0)) ∧
  (prM σ b 1 = b + 1 ∧ prM σ b 2 = b + 2 ∧ prM σ b 3 = b + 3 ∧ prM σ b 4 = b + 4 ∧ prM σ b 5 = b + 5 ∧ prM σ b 6 = b + 6 ∧ prM σ b 7 = b + 7 ∧ prM σ b 8 = b + 8 ∧ prM σ b 9 = b + 13) ∧
  (prM σ (b + 8) 1 = b + 9 ∧ prM σ (b + 8) 2 = b + 10 ∧ prM σ (b + 8) 3 = b + 11 ∧ prM σ (b + 8) 4 = b + 12) ∧
  (prM σ (b + 13) 2 = b + 14 ∧ prM σ (b + 13) 3 = b + 15 ∧ prM σ (b + 13) 4 = b + 16) ∧
  (tkM σ (b + 1) = (2, 2) ∧ tkM σ (b + 2) = (3, 6) ∧ tkM σ (b + 3) = (2, 18) ∧ tkM σ (b + 4) = (2, 18) ∧ tkM σ (b + 5) = (2, 18) ∧ tkM σ (b + 6) = (2, 18) ∧ tkM σ (b + 7) = (2, 9)) ∧
  (tkM σ (b + 9) = (2, 60) ∧ tkM σ (b + 10) = (2, 60) ∧ tkM σ (b + 11) = (2, 60) ∧ tkM σ (b + 12) = (2, 60)) ∧
  (tkM σ (b + 14) = (2, 12) ∧ tkM σ (b + 15) = (2, 12) ∧ tkM σ (b + 16) = (2, 12))
theorem le8 {b k : Nat} (h : 8 ≤ b) : (8 ≤ b + k) = True := eq_true (by omega)
abbrev QdM : Type := Int32 × Int32 × Int32 × Int32
def Lq (g : Nat → QdM) (n : Nat) : List QdM := (List.range n).map g
def qM (f : Nat → Int32) : Nat → QdM := fun i => (f (5 + 4 * i), f (5 + 4 * i + 1), f (5 + 4 * i + 2), f (5 + 4 * i + 3))
def qC (d : Nat → Nat → Int32) : Nat → QdM := fun i => (d 9 i, d 10 i, d 11 i, d 12 i)
def smQ (h : QdM → Int32) : List QdM → Int32
  | [] => nQ 0
  | x :: l => h x + smQ h l
theorem Lq_len (g : Nat → QdM) (n : Nat) : (Lq g n).length = n := by unfold Lq; rw [List.length_map, List.length_range]
theorem Lq_get (g : Nat → QdM) {n i : Nat} (h : i < (Lq g n).length) : (Lq g n)[i] = g i := by simp only [Lq, List.getElem_map, List.getElem_range]
theorem Lq_mem {g : Nat → QdM} {n : Nat} {x : QdM} : x ∈ Lq g n ↔ ∃ i, i < n ∧ g i = x := by
  unfold Lq
  rw [List.mem_map]
  exact ⟨fun ⟨i, h1, h2⟩ => ⟨i, List.mem_range.mp h1, h2⟩, fun ⟨i, h1, h2⟩ => ⟨i, List.mem_range.mpr h1, h2⟩⟩
theorem Lq_s (g : Nat → QdM) (n : Nat) : Lq g (n + 1) = Lq g n ++ [g n] := by unfold Lq; rw [List.range_succ, List.map_append]; rfl
theorem Lq_congr {g g' : Nat → QdM} {n : Nat} (h : ∀ i, i < n → g i = g' i) : Lq g n = Lq g' n := by
  unfold Lq
  exact List.map_congr_left (fun i hi => h i (List.mem_range.mp hi))
theorem Lq_set {g g' : Nat → QdM} {n i : Nat} (h : ∀ j, j < n → ¬ j = i → g' j = g j) : Lq g' n = (Lq g n).set i (g' i) := by
  refine List.ext_getElem (by rw [List.length_set, Lq_len, Lq_len]) (fun j h1 h2 => ?_)
  rw [Lq_get, List.getElem_set]
  rw [Lq_len] at h1
  by_cases e : i = j
  · rw [if_pos e, e]
  · rw [if_neg e, Lq_get]
    exact h j h1 (fun z => e z.symm)
theorem set_perm {α : Type} : ∀ (l : List α) (i : Nat) (x y : α), l[i]? = some x → (x :: l.set i y).Perm (y :: l)
  | [], i, x, y, h => by cases h
  | z :: l, 0, x, y, h => by
    obtain rfl : z = x := Option.some.inj h
    exact List.Perm.swap _ _ _
  | z :: l, i + 1, x, y, h => by
    have h : l[i]? = some x := h
    refine (List.Perm.swap z x _).trans ?_
    refine ((set_perm l i x y h).cons z).trans ?_
    exact List.Perm.swap _ _ _
theorem sm_app (h : QdM → Int32) (x : QdM) : ∀ l, smQ h (l ++ [x]) = smQ h l + h x
  | [] => by show h x + nQ 0 = nQ 0 + h x; rw [Int32.add_comm]
  | y :: l => by
    show h y + smQ h (l ++ [x]) = h y + smQ h l + h x
    rw [sm_app h x l, Int32.add_assoc]
theorem sm_perm (h : QdM → Int32) {l l' : List QdM} (p : l.Perm l') : smQ h l = smQ h l' := by
  induction p with
  | nil => rfl
  | cons x _ ih => show h x + _ = h x + _; rw [ih]
  | swap x y l =>
    show h y + (h x + smQ h l) = h x + (h y + smQ h l)
    rw [← Int32.add_assoc, ← Int32.add_assoc, Int32.add_comm (h y)]
  | trans _ _ h1 h2 => exact h1.trans h2
def gAR (a : Int32) (r : Nat) (x : QdM) : Int32 := if x.2.1 = a ∨ nQ 6 + x.2.2.1 = a then (if r = 0 then x.2.2.2 else nQ 1) else nQ 0
theorem us_sm (f : Nat → Int32) (a : Int32) (r : Nat) : ∀ n, usF f a r n = smQ (gAR a r) (Lq (qM f) n)
  | 0 => rfl
  | n + 1 => by rw [usF_s, Lq_s, sm_app, us_sm f a r n]; rfl
/-- the log -/
def LgR (d : Nat → Nat → Int32) (f : Nat → Int32) : Prop := ∃ q e : Nat, q < 12 ∧ e ≤ 12 ∧ d 13 0 = nQ e ∧ d 13 1 = nQ q ∧ f 308 = nQ e ∧ ∀ i, i < e → d 14 ((q + i) % 12) = f (309 + 4 * i) ∧ (∃ k, k < 18 ∧ d 15 ((q + i) % 12) = nQ k ∧ f (309 + 4 * i + 1) = nQ (k / 2) ∧ f (309 + 4 * i + 2) = nQ (k - k / 2 * 2)) ∧ d 16 ((q + i) % 12) = f (309 + 4 * i + 3)
theorem lg_lo (f : Nat → Int32) (k a r : Int32) {i : Nat} (h : i < 308) : lgF f k a r i = f i := by
  unfold lgF
  rw [if_neg (by omega), if_neg (by omega), if_neg (by omega), if_neg (by omega), if_neg (by omega), if_neg (by omega)]
theorem lg_hi (f : Nat → Int32) (k a r : Int32) {i : Nat} (h : 357 ≤ i) : lgF f k a r i = f i := by
  unfold lgF
  rw [if_neg (by omega), if_neg (by omega), if_neg (by omega), if_neg (by omega), if_neg (by omega), if_neg (by omega)]
theorem lg_up (f : Nat → Int32) (k a r : Int32) {i : Nat} (h : 312 < i) (h2 : i < 357) : lgF f k a r i = f (i - 4) := by
  unfold lgF
  rw [if_neg (by omega), if_neg (by omega), if_neg (by omega), if_neg (by omega), if_neg (by omega), if_pos ⟨h, h2⟩]
theorem Lg_congr {d d' : Nat → Nat → Int32} {f f' : Nat → Int32} (h : LgR d f) (hd : ∀ u, 13 ≤ u → u < 17 → d' u = d u) (hf : ∀ i, 308 ≤ i → i < 357 → f' i = f i) : LgR d' f' := by
  obtain ⟨q, e, hq, he, e0, e1, f8, hE⟩ := h
  refine ⟨q, e, hq, he, ?_, ?_, ?_, fun i hi => ?_⟩
  · rw [hd 13 (by omega) (by omega), e0]
  · rw [hd 13 (by omega) (by omega), e1]
  · rw [hf 308 (by omega) (by omega), f8]
  · obtain ⟨a1, a2, a3⟩ := hE i hi
    rw [hd 14 (by omega) (by omega), hd 15 (by omega) (by omega), hd 16 (by omega) (by omega), hf _ (by omega) (by omega), hf (309 + 4 * i + 1) (by omega) (by omega), hf (309 + 4 * i + 2) (by omega) (by omega), hf (309 + 4 * i + 3) (by omega) (by omega)]
    exact ⟨a1, a2, a3⟩
theorem rX_5 (d : Nat → Nat → Int32) (u v w x : Nat) (f g h k e : Nat → Int32) : rX (rX (rX (rX (rX d u f) v g) w h) x k) u e = rX (rX (rX (rX d v g) w h) x k) u e := by
  funext a
  by_cases c : a = u <;> simp only [rX, c, if_true, if_false]
section Cs
variable {σ : Mem} {b : Nat} {d : Nat → Nat → Int32}
theorem c98 {σ : Mem} (a r : Nat) : DoM 98 [.int (nQ a), .int (nQ r)] σ = some (.inl (some (.int (nQ (2 * a + r)))), σ) := by
  refine (g98_0).trans ?_
  rw [nQ_mul, nQ_add, Nat.mul_comm]
theorem c99 {σ : Mem} (g : Int32) : DoM 99 [.int g] σ = some (.inl (some (.int (nQ 6 + g))), σ) := g99_0
theorem c100 {σ : Mem} (v w : Int32) : DoM 100 [.int v, .int w] σ = some (.inl (some (.int (nQ 100 * v + w))), σ) := by
  refine (g100_0).trans ?_
  rw [Int32.mul_comm]
theorem c2 (h : ShS σ b) {f : Nat → Int32} (hl : LgR d f) {k : Nat} (hk : k < 18) (x : Int32) {y : Int32} (hy : y = f 0) : ∃ d', DoM 2 [.ref (b + 13), .int x, .int (nQ k), .int y] (sB 17 σ b d) = some (.inl none, sB 17 σ b d') ∧ LgR d' (lgF f x (nQ (k / 2)) (nQ (k - k / 2 * 2))) ∧ ∀ u, u < 13 → d' u = d u := by
  obtain ⟨h8, ⟨k0, k8, k13⟩, ⟨p1, p2, p3, p4, p5, p6, p7, p8, p9⟩, ⟨q1, q2, q3, q4⟩, ⟨e2, e3, e4⟩, ⟨t1, t2, t3, t4, t5, t6, t7⟩, ⟨t9, t10, t11, t12⟩, ⟨t14, t15, t16⟩⟩ := id h
  obtain ⟨q, e, hq, he, e0, e1, f8, hE⟩ := hl
  obtain ⟨p, hp, hpq, hR⟩ : ∃ p, p < 12 ∧ (p + 1) % 12 = q ∧ RuM 2 (0, [some (.ref (b + 13)), some (.int x), some (.int (nQ k)), some (.int y)], [], 0, 0) (sB 17 σ b d) = RuM 2 (19, [some (.ref (b + 13)), some (.int x), some (.int (nQ k)), some (.int y)], [.int (nQ p), .ref (b + 13)], 0, 0) (sB 17 σ b d) := by
    by_cases c : q = 0
    · refine ⟨11, by decide, by rw [c], ?_⟩
      rw [g2_0]
      simp (disch := omega) only [aOk, eq_self, tk_sB, pr_sB, tk_wr, pr_wr, nQ_nat, nQ_neg, nQ_add, nQ_mul, nQ_lt, leF, ltT, ltF, rd_sB, rd_sB0, wr_sB, wr_sB0, cn_l, cn_r, Option.toList, List.cons_append, List.nil_append, if_true, if_false, true_and, and_true, or_false, false_or, true_or, or_true, not_false_eq_true, not_true_eq_false, and_false, false_and, zb_0, zb_1, q10, k0, k8, k13, p1, p2, p3, p4, p5, p6, p7, p8, p9, q1, q2, q3, q4, e2, e3, e4, t1, t2, t3, t4, t5, t6, t7, t9, t10, t11, t12, t14, t15, t16, le8 h8, e1, c]
    · refine ⟨q - 1, by omega, by omega, ?_⟩
      rw [g2_0]
      simp (disch := omega) only [aOk, eq_self, tk_sB, pr_sB, tk_wr, pr_wr, nQ_nat, nQ_neg, nQ_add, nQ_mul, nQ_lt, leF, ltT, ltF, rd_sB, rd_sB0, wr_sB, wr_sB0, cn_l, cn_r, Option.toList, List.cons_append, List.nil_append, if_true, if_false, true_and, and_true, or_false, false_or, true_or, or_true, not_false_eq_true, not_true_eq_false, and_false, false_and, zb_0, zb_1, q10, k0, k8, k13, p1, p2, p3, p4, p5, p6, p7, p8, p9, q1, q2, q3, q4, e2, e3, e4, t1, t2, t3, t4, t5, t6, t7, t9, t10, t11, t12, t14, t15, t16, le8 h8, e1, nQ_eq, nQ_sub, c]
  have hE2 : ∀ i, 0 < i → i < 12 → (p + i) % 12 = (q + (i - 1)) % 12 ∧ ¬ (p + i) % 12 = p := fun i h1 h2 => by omega
  have hp0 : (p + 0) % 12 = p := by omega
  refine ⟨if e < 12 then rX (rX (rX (rX d 14 (up (d 14) p x)) 15 (up (d 15) p (nQ k))) 16 (up (d 16) p y)) 13 (up (up (d 13) 1 (nQ p)) 0 (nQ (e + 1))) else rX (rX (rX (rX d 13 (up (d 13) 1 (nQ p))) 14 (up (d 14) p x)) 15 (up (d 15) p (nQ k))) 16 (up (d 16) p y), ?_, ?_, ?_⟩
  · refine hR.trans ?_
    simp (disch := omega) only [aOk, eq_self, tk_sB, pr_sB, tk_wr, pr_wr, nQ_nat, nQ_neg, nQ_add, nQ_mul, nQ_lt, leF, ltT, ltF, rd_sB, rd_sB0, wr_sB, wr_sB0, cn_l, cn_r, Option.toList, List.cons_append, List.nil_append, if_true, if_false, true_and, and_true, or_false, false_or, true_or, or_true, not_false_eq_true, not_true_eq_false, and_false, false_and, zb_0, zb_1, q10, k0, k8, k13, p1, p2, p3, p4, p5, p6, p7, p8, p9, q1, q2, q3, q4, e2, e3, e4, t1, t2, t3, t4, t5, t6, t7, t9, t10, t11, t12, t14, t15, t16, le8 h8, rX_s, rX_n, up_s, up_n, e0, g2_19, g2_22, g2_32, g2_42]
    by_cases c : e < 12
    · simp (disch := omega) only [aOk, eq_self, tk_sB, pr_sB, tk_wr, pr_wr, nQ_nat, nQ_neg, nQ_add, nQ_mul, nQ_lt, leF, ltT, ltF, rd_sB, rd_sB0, wr_sB, wr_sB0, cn_l, cn_r, Option.toList, List.cons_append, List.nil_append, if_true, if_false, true_and, and_true, or_false, false_or, true_or, or_true, not_false_eq_true, not_true_eq_false, and_false, false_and, zb_0, zb_1, q10, k0, k8, k13, p1, p2, p3, p4, p5, p6, p7, p8, p9, q1, q2, q3, q4, e2, e3, e4, t1, t2, t3, t4, t5, t6, t7, t9, t10, t11, t12, t14, t15, t16, le8 h8, rX_s, rX_n, up_s, up_n, e0, c, g2_52, g2_71]
      rw [rX_5]
    · simp (disch := omega) only [aOk, eq_self, tk_sB, pr_sB, tk_wr, pr_wr, nQ_nat, nQ_neg, nQ_add, nQ_mul, nQ_lt, leF, ltT, ltF, rd_sB, rd_sB0, wr_sB, wr_sB0, cn_l, cn_r, Option.toList, List.cons_append, List.nil_append, if_true, if_false, true_and, and_true, or_false, false_or, true_or, or_true, not_false_eq_true, not_true_eq_false, and_false, false_and, zb_0, zb_1, q10, k0, k8, k13, p1, p2, p3, p4, p5, p6, p7, p8, p9, q1, q2, q3, q4, e2, e3, e4, t1, t2, t3, t4, t5, t6, t7, t9, t10, t11, t12, t14, t15, t16, le8 h8, rX_s, rX_n, up_s, up_n, e0, c, g2_52, g2_71]
  · have k1 : lgF f x (nQ (k / 2)) (nQ (k - k / 2 * 2)) 308 = nQ (if e < 12 then e + 1 else e) := by
      show f 308 + (if f 308 < nQ 12 then nQ 1 else nQ 0) = _
      rw [f8]
      simp (disch := omega) only [nQ_lt]
      split <;> rw [nQ_add]
      rfl
    refine ⟨p, if e < 12 then e + 1 else e, hp, by split <;> omega, ?_, ?_, k1, fun i hi => ?_⟩
    · split
      · rfl
      · exact e0
    · split <;> rfl
    · have hi2 : i < 12 := by split at hi <;> omega
      by_cases c0 : i = 0
      · subst c0
        rw [hp0]
        refine ⟨?_, ⟨k, hk, ?_, rfl, rfl⟩, ?_⟩
        · split <;> exact up_s _ _ _
        · split <;> exact up_s _ _ _
        · split <;> exact (up_s _ _ _).trans hy
      · obtain ⟨a1, a2⟩ := hE2 i (by omega) hi2
        obtain ⟨b1, b2, b3⟩ := hE (i - 1) (by split at hi <;> omega)
        rw [← a1] at b1 b2 b3
        rw [lg_up f x _ _ (i := 309 + 4 * i) (by omega) (by omega), lg_up f x _ _ (i := 309 + 4 * i + 1) (by omega) (by omega), lg_up f x _ _ (i := 309 + 4 * i + 2) (by omega) (by omega), lg_up f x _ _ (i := 309 + 4 * i + 3) (by omega) (by omega)]
        rw [show 309 + 4 * i - 4 = 309 + 4 * (i - 1) by omega, show 309 + 4 * i + 1 - 4 = 309 + 4 * (i - 1) + 1 by omega, show 309 + 4 * i + 2 - 4 = 309 + 4 * (i - 1) + 2 by omega, show 309 + 4 * i + 3 - 4 = 309 + 4 * (i - 1) + 3 by omega]
        refine ⟨?_, ?_, ?_⟩
        · split <;> exact (up_n a2).trans b1
        · obtain ⟨k', c1, c2, c3⟩ := b2
          refine ⟨k', c1, ?_, c3⟩
          split <;> exact (up_n a2).trans c2
        · split <;> exact (up_n a2).trans b3
  · intro u hu
    split
    · rw [rX_n (by omega), rX_n (by omega), rX_n (by omega), rX_n (by omega)]
    · rw [rX_n (by omega), rX_n (by omega), rX_n (by omega), rX_n (by omega)]
end Cs
