/-! The bytecode does what the small machine does: one instruction. -/
def vkM (n : Nat) : Value → Bool
  | .int _ => true
  | .long _ => true
  | .ref u => decide (u < n)
  | _ => false
def LoM (LL : List Nat) (n : Nat) (ad : Nat → Nat) (la : List (Option Value)) (ls : Array Slot) (nL : Nat) : Prop :=
  ∃ lv, lv_has ls nL lv ∧ (∀ q ∈ lv, q.2.category = 1 ∨ q.1 ∈ LL) ∧ ∀ (i : Nat) (v : Value), la[i]? = some (some v) → (i, vaM ad v) ∈ lv ∧ vkM n v = true
def SkM (n : Nat) (ad : Nat → Nat) (sa st : List Value) : Prop := st = sa.map (vaM ad) ∧ ∀ v ∈ sa, vkM n v = true
def AcM (G : GlM) (l : Launch) (k : Nat) (p : Program) (R : Room) (s : State) (m : MethodId) (args : Array Value) (meth : Method) (c : Code) : Prop :=
  (p.tables.exec = Jvm.exec ∧ c.code = byM k ∧ c.maxLocals = mxM k ∧ meth.sig.returnType = rtM k ∧ meth.locks = false ∧ meth.name = (yM k).name ∧ s.vm.findClass (owM k) = some m.cls) ∧
  (∀ w ∈ lw_tbl, goodWord w = true → w.before args s = true) ∧ EvG G s ∧ (nfM k ≤ R.frames ∧ nlM k ≤ R.locals ∧ ncM k ≤ R.cells ∧ nsM k ≤ R.slots)
def ReM (k pc : Nat) : Option Value → Prop
  | none => decode (byM k) pc = .ok (.return_, 1) ∧ rtM k = none
  | some (.int x) => decode (byM k) pc = .ok (.ireturn, 1) ∧ (rtM k = some .int ∨ (rtM k = some .boolean ∧ (x = 0 ∨ x = 1)))
  | some (.long _) => decode (byM k) pc = .ok (.lreturn, 1) ∧ rtM k = some .long
  | _ => False
def voM (n : Nat) : Option Value → Prop
  | some v => vkM n v = true
  | none => True
section SX
variable (G : GlM) (l : Launch) (k : Nat) (p : Program) (e : Env) (R : Room) (s : State) (m : MethodId) (args : Array Value) (below : List Frame) (meth : Method) (c : Code)
def XiM (ad : Nat → Nat) (n0 : Nat) (o : OutM) (Q : State → Prop) : Prop :=
  match o with
  | (.inl v, σ') => ∀ (ad' : Nat → Nat) (H' : Heap) (locs' : List Loc) (kc ks pc : Nat) (ls : Array Slot), (∀ u, u < n0 → ad' u = ad u) → n0 ≤ nxM σ' → RpM G ad' σ' H' → va_S (gU G) s.heap H' locs' → kc ≤ ncM k → ks ≤ nsM k → ReM k pc v → voM (nxM σ') v →
      W p l e R s m args below meth c H' locs' kc ks Q (F0 m pc ls (v.map (vaM ad')).toList)
  | (.inr _, _) => True
end SX
/-- from a frame of the small machine: the bytecode's frame comes to the same end -/
def WsM (G : GlM) (l : Launch) (k : Nat) (fr : FrM) (σ : Mem) (o : OutM) : Prop :=
  ∀ (p : Program) (e : Env) (R : Room) (s : State) (m : MethodId) (args : Array Value) (below : List Frame) (meth : Method) (c : Code) (ad : Nat → Nat) (H : Heap) (locs : List Loc) (Q : State → Prop) (ls : Array Slot) (st : List Value),
    AcM G l k p R s m args meth c → RpM G ad σ H → va_S (gU G) s.heap H locs → LoM (llM k) (nxM σ) ad fr.2.1 ls (mxM k) → SkM (nxM σ) ad fr.2.2.1 st → XiM G l k p e R s m args below meth c ad (nxM σ) o Q →
      W p l e R s m args below meth c H locs fr.2.2.2.1 fr.2.2.2.2 Q (F0 m fr.1 ls st)
theorem Xi_mono {G : GlM} {l : Launch} {k : Nat} {p : Program} {e : Env} {R : Room} {s : State} {m : MethodId} {args : Array Value} {below : List Frame} {meth : Method} {c : Code} {ad ad' : Nat → Nat} {n0 n1 : Nat} {o : OutM} {Q : State → Prop}
    (h : XiM G l k p e R s m args below meth c ad n0 o Q) (hn : n0 ≤ n1) (ha : ∀ u, u < n0 → ad' u = ad u) : XiM G l k p e R s m args below meth c ad' n1 o Q := by
  obtain ⟨r, σ'⟩ := o
  cases r with
  | inl v => exact fun ad2 H' locs' kc ks pc ls h1 h2 => h ad2 H' locs' kc ks pc ls (fun u hu => (h1 u (by omega)).trans (ha u hu)) (by omega)
  | inr E => trivial
-- what a combinator's answer says of the stack
theorem in_I1 {f : Int32 → List Value → Option OutM} {st : List Value} {o : OutM} (h : sI1 f st = some o) : ∃ x r, st = .int x :: r ∧ f x r = some o := by
  unfold sI1 at h
  split at h
  · exact ⟨_, _, rfl, h⟩
  · cases h
theorem in_I2 {f : Int32 → Int32 → List Value → Option OutM} {st : List Value} {o : OutM} (h : sI2 f st = some o) : ∃ x y r, st = .int y :: .int x :: r ∧ f x y r = some o := by
  unfold sI2 at h
  split at h
  · exact ⟨_, _, _, rfl, h⟩
  · cases h
theorem in_L2 {f : Int64 → Int64 → List Value → Option OutM} {st : List Value} {o : OutM} (h : sL2 f st = some o) : ∃ x y r, st = .long y :: .long x :: r ∧ f x y r = some o := by
  unfold sL2 at h
  split at h
  · exact ⟨_, _, _, rfl, h⟩
  · cases h
theorem in_L1 {f : Int64 → List Value → Option OutM} {st : List Value} {o : OutM} (h : sL1 f st = some o) : ∃ x r, st = .long x :: r ∧ f x r = some o := by
  unfold sL1 at h
  split at h
  · exact ⟨_, _, rfl, h⟩
  · cases h
theorem in_R1 {f : Nat → List Value → Option OutM} {st : List Value} {o : OutM} (h : sR1 f st = some o) : ∃ x r, st = .ref x :: r ∧ f x r = some o := by
  unfold sR1 at h
  split at h
  · exact ⟨_, _, rfl, h⟩
  · cases h
theorem in_IR {f : Int32 → Nat → List Value → Option OutM} {st : List Value} {o : OutM} (h : sIR f st = some o) : ∃ i v r, st = .int i :: .ref v :: r ∧ f i v r = some o := by
  unfold sIR at h
  split at h
  · exact ⟨_, _, _, rfl, h⟩
  · cases h
theorem in_RR {f : Nat → Nat → List Value → Option OutM} {st : List Value} {o : OutM} (h : sRR f st = some o) : ∃ i v r, st = .ref i :: .ref v :: r ∧ f i v r = some o := by
  unfold sRR at h
  split at h
  · exact ⟨_, _, _, rfl, h⟩
  · cases h
theorem in_IIR {f : Int32 → Int32 → Nat → List Value → Option OutM} {st : List Value} {o : OutM} (h : sIIR f st = some o) : ∃ x i v r, st = .int x :: .int i :: .ref v :: r ∧ f x i v r = some o := by
  unfold sIIR at h
  split at h
  · exact ⟨_, _, _, _, rfl, h⟩
  · cases h
theorem in_RIR {f : Nat → Int32 → Nat → List Value → Option OutM} {st : List Value} {o : OutM} (h : sRIR f st = some o) : ∃ x i v r, st = .ref x :: .int i :: .ref v :: r ∧ f x i v r = some o := by
  unfold sRIR at h
  split at h
  · exact ⟨_, _, _, _, rfl, h⟩
  · cases h
theorem in_Cp {f : Int32 → Int32 → Nat → Int32 → Nat → List Value → Option OutM} {st : List Value} {o : OutM} (h : sCp f st = some o) : ∃ n dp dv sp sv r, st = .int n :: .int dp :: .ref dv :: .int sp :: .ref sv :: r ∧ f n dp dv sp sv r = some o := by
  unfold sCp at h
  split at h
  · exact ⟨_, _, _, _, _, _, rfl, h⟩
  · cases h
theorem in_oI {f : Int32 → Option OutM} {v : Option Value} {o : OutM} (h : oI f v = some o) : ∃ x, v = some (.int x) ∧ f x = some o := by
  unfold oI at h
  split at h
  · exact ⟨_, rfl, h⟩
  · cases h
theorem in_oL {f : Int64 → Option OutM} {v : Option Value} {o : OutM} (h : oL f v = some o) : ∃ x, v = some (.long x) ∧ f x = some o := by
  unfold oL at h
  split at h
  · exact ⟨_, rfl, h⟩
  · cases h
theorem in_oR {f : Nat → Option OutM} {v : Option Value} {o : OutM} (h : oR f v = some o) : ∃ x, v = some (.ref x) ∧ f x = some o := by
  unfold oR at h
  split at h
  · exact ⟨_, rfl, h⟩
  · cases h
theorem in_no {c : Prop} [Decidable c] {A : Option OutM} {o : OutM} (h : (if c then A else none) = some o) : c ∧ A = some o := by
  by_cases hc : c
  · rw [if_pos hc] at h; exact ⟨hc, h⟩
  · rw [if_neg hc] at h; cases h
theorem Lo_get {LL : List Nat} {n : Nat} {ad : Nat → Nat} {la : List (Option Value)} {ls : Array Slot} {nL i : Nat} {v : Value} (h : LoM LL n ad la ls nL) (hv : la.getD i none = some v) : ls[i]? = some (.val (vaM ad v)) ∧ vkM n v = true := by
  obtain ⟨lv, h1, h2, h3⟩ := h
  have hi : la[i]? = some (some v) := by
    rw [List.getD_eq_getElem?_getD] at hv
    cases e : la[i]? with
    | none => rw [e] at hv; cases hv
    | some w => rw [e] at hv; exact congrArg some hv
  exact ⟨h1.2.2 _ (h3 i v hi).1, (h3 i v hi).2⟩
theorem va_cat1 {ad : Nat → Nat} {v : Value} (h : isOne v = true) : (vaM ad v).category = 1 := by
  cases v <;> first | rfl | (simp [isOne] at h; done) | skip
  · show (va_rf (rfM ad _)).category = 1
    unfold rfM
    split <;> rfl
theorem lf_spec {k i : Nat} (h : lfM k i = true) : ∀ j, j = i ∨ j + 1 = i → ¬ j ∈ llM k := by
  unfold lfM at h
  simp only [Bool.and_eq_true, Bool.or_eq_true, Bool.not_eq_true', List.contains_eq_mem, decide_eq_false_iff_not] at h
  rintro j (rfl | rfl)
  · exact h.1
  · rcases h.2 with h2 | h2
    · exact absurd (Nat.eq_of_beq_eq_true h2) (by omega)
    · exact h2
theorem Lo_set {LL : List Nat} {n : Nat} {ad : Nat → Nat} {la : List (Option Value)} {lv : List (Nat × Value)} {ls' : Array Slot} {nL i : Nat} {w : Value} (x : Option Value) (hf : ∀ j, j = i ∨ j + 1 = i → ¬ j ∈ LL) (h2 : ∀ q ∈ lv, q.2.category = 1 ∨ q.1 ∈ LL) (h3 : ∀ (i : Nat) (v : Value), la[i]? = some (some v) → (i, vaM ad v) ∈ lv ∧ vkM n v = true)
    (hx : ∀ v, x = some v → w = vaM ad v ∧ vkM n v = true) (hc : w.category = 1) (h : lv_has ls' nL ((i, w) :: lv.filter (fun q => !(q.1 == i) && !(q.1 + 1 == i && q.2.category == 2)))) : LoM LL n ad (la.set i x) ls' nL := by
  refine ⟨_, h, fun q hq => ?_, fun j v hj => ?_⟩
  · rcases List.mem_cons.mp hq with rfl | hq
    · exact Or.inl hc
    · exact h2 q (List.mem_filter.mp hq).1
  · by_cases e : i = j
    · subst e
      by_cases hl : i < la.length
      · rw [List.getElem?_set_self hl] at hj
        obtain ⟨a, b⟩ := hx v (Option.some.inj hj)
        exact ⟨by rw [← a]; exact List.mem_cons_self, b⟩
      · rw [List.getElem?_eq_none (by rw [List.length_set]; omega)] at hj
        cases hj
    · rw [List.getElem?_set_ne e] at hj
      obtain ⟨a, b⟩ := h3 j v hj
      refine ⟨List.mem_cons_of_mem _ (List.mem_filter.mpr ⟨a, ?_⟩), b⟩
      have e1 : (j == i) = false := by simp; omega
      have e2 : (j + 1 == i && (vaM ad v).category == 2) = false := by
        by_cases c : j + 1 = i
        · rcases h2 _ a with z | z
          · have z : (vaM ad v).category = 1 := z
            rw [z]; simp
          · exact absurd z (hf j (Or.inr c))
        · simp [c]
      simp only [e1, e2]
      rfl
theorem Lo_setL {LL : List Nat} {n : Nat} {ad : Nat → Nat} {la : List (Option Value)} {lv : List (Nat × Value)} {ls' : Array Slot} {nL i : Nat} {x : Int64} (hi : i ∈ LL) (hf : ∀ j, j + 1 = i → ¬ j ∈ LL) (h2 : ∀ q ∈ lv, q.2.category = 1 ∨ q.1 ∈ LL) (h3 : ∀ (i : Nat) (v : Value), la[i]? = some (some v) → (i, vaM ad v) ∈ lv ∧ vkM n v = true)
    (h : lv_has ls' nL ((i, Value.long x) :: lv.filter (fun q => !(q.1 == i) && (!(q.1 == i + 1) && !(q.1 + 1 == i && q.2.category == 2))))) : LoM LL n ad ((la.set i (some (.long x))).set (i + 1) none) ls' nL := by
  refine ⟨_, h, fun q hq => ?_, fun j v hj => ?_⟩
  · rcases List.mem_cons.mp hq with rfl | hq
    · exact Or.inr hi
    · exact h2 q (List.mem_filter.mp hq).1
  · by_cases e0 : i + 1 = j
    · subst e0
      by_cases hl : i + 1 < (la.set i (some (.long x))).length
      · rw [List.getElem?_set_self hl] at hj
        cases hj
      · rw [List.getElem?_eq_none (by rw [List.length_set]; omega)] at hj
        cases hj
    rw [List.getElem?_set_ne e0] at hj
    by_cases e : i = j
    · subst e
      by_cases hl : i < la.length
      · rw [List.getElem?_set_self hl] at hj
        cases hj
        exact ⟨List.mem_cons_self, rfl⟩
      · rw [List.getElem?_eq_none (by rw [List.length_set]; omega)] at hj
        cases hj
    · rw [List.getElem?_set_ne e] at hj
      obtain ⟨a, b⟩ := h3 j v hj
      refine ⟨List.mem_cons_of_mem _ (List.mem_filter.mpr ⟨a, ?_⟩), b⟩
      have e1 : (j == i) = false := by simp; omega
      have e3 : (j == i + 1) = false := by simp; omega
      have e2 : (j + 1 == i && (vaM ad v).category == 2) = false := by
        by_cases c : j + 1 = i
        · rcases h2 _ a with z | z
          · have z : (vaM ad v).category = 1 := z
            rw [z]; simp
          · exact absurd z (hf j c)
        · simp [c]
      simp only [e1, e2, e3]
      rfl
theorem Lo_ad {LL : List Nat} {n n' : Nat} {ad ad' : Nat → Nat} {la : List (Option Value)} {ls : Array Slot} {nL : Nat} (h : LoM LL n ad la ls nL) (hn : n ≤ n') (ha : ∀ u, u < n → ad' u = ad u) : LoM LL n' ad' la ls nL := by
  obtain ⟨lv, h1, h2, h3⟩ := h
  refine ⟨lv, h1, h2, fun i v hv => ?_⟩
  obtain ⟨a, b⟩ := h3 i v hv
  cases v <;> first | exact ⟨a, b⟩ | skip
  case ref u =>
    have hu : u < n := of_decide_eq_true b
    refine ⟨?_, decide_eq_true (Nat.lt_of_lt_of_le hu hn)⟩
    have : vaM ad' (.ref u) = vaM ad (.ref u) := by show va_rf (rfM ad' u) = va_rf (rfM ad u); unfold rfM; rw [ha u hu]
    rw [this]; exact a
theorem va_ad {n : Nat} {ad ad' : Nat → Nat} {v : Value} (h : vkM n v = true) (ha : ∀ u, u < n → ad' u = ad u) : vaM ad' v = vaM ad v := by
  cases v <;> first | rfl | skip
  case ref u =>
    have hu : u < n := of_decide_eq_true h
    show va_rf (rfM ad' u) = va_rf (rfM ad u); unfold rfM; rw [ha u hu]
theorem vk_mono {n n' : Nat} {v : Value} (h : vkM n v = true) (hn : n ≤ n') : vkM n' v = true := by
  cases v <;> first | exact h | skip
  case ref u => exact decide_eq_true (Nat.lt_of_lt_of_le (of_decide_eq_true h) hn)
theorem Sk_ad {n n' : Nat} {ad ad' : Nat → Nat} {sa : List Value} (h : ∀ v ∈ sa, vkM n v = true) (hn : n ≤ n') (ha : ∀ u, u < n → ad' u = ad u) : sa.map (vaM ad) = sa.map (vaM ad') ∧ ∀ v ∈ sa, vkM n' v = true :=
  ⟨List.map_congr_left fun v hv => (va_ad (h v hv) ha).symm, fun v hv => vk_mono (h v hv) hn⟩
theorem cat_map (ad : Nat → Nat) : ∀ (sa : List Value), ((sa.map (vaM ad)).map fun v => v.category).sum = catM sa
  | [] => rfl
  | v :: r => by
    have ih := cat_map ad r
    cases v <;> simp only [List.map_cons, List.sum_cons, ih, catM] <;> first | (show Value.category _ + _ = _; simp [Value.category, vaM]; done) | skip
    case ref u =>
      have : (vaM ad (.ref u)).category = 1 := va_cat1 rfl
      rw [this]; omega
    all_goals (show Value.category _ + _ = _; simp [Value.category, vaM]; omega)
