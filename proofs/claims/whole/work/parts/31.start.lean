def R_law : String := "StorageQuotasLaw"
def lw_P (b : Addr) (xs : List Int32) (args : Array Value) (s : State) : Prop := args = #[.ref b] ∧ s.IntsAt b xs ∧ xs.length ≤ 3072 ∧ (Jvm.Cond.and given_1 narrow_1).before args s = true
def lw_Q (_ : Array Value) (s : State) (o : Outcome) (t : State) : Prop := o = .returned (some (.int 1)) ∧ Framed s o t [] 601024 7293034
def lw_Z (below : List Frame) (a : Array Value) (s : State) : State → Prop := fun t => ∃ o, t.status = .running ∧ Ended t below o ∧ lw_Q a s o t
/-- the law's own end, with 1 on the stack, nothing written that was there before, its room as the claim has it -/
theorem lw_ret {p : Program} {l : Launch} {e : Env} {s : State} {m : MethodId} {below : List Frame} {meth : Method} {c : Code} {b : Nat} (hx : p.tables.exec = Jvm.exec) (hb : c.code = code) (hr : meth.sig.returnType = ret) (hlocks : meth.locks = false) {pc : Nat} {H : Heap} {ls : Array Slot} (hdg : decode code pc = .ok (.ireturn, 1)) : W p l e room_1 s m #[Value.ref b] below meth c H [] 601024 7293034 (lw_Z below #[Value.ref b] s) (F0 m pc ls [.int 1]) := by
  intro T hT X
  obtain ⟨fs, hret, hrun, hended, hW, hframe⟩ := X.leave (v := some (.int 1)) (hlocks := hlocks) (fun h => by rw [hr] at h; cases h)
  have hmeth' : T.vm.method? m = some meth := X.method'
  refine ⟨T.setFrames fs, ?_, .returned (some (.int 1)), hrun, hended, rfl, ⟨_, rfl⟩, hW, hframe⟩
  jvm_step X.here [X.here.top, hx, hb, hdg, hmeth', hr, ret, narrow_b1]
  (try refine ⟨rfl, ?_⟩); (try refine ⟨rfl, ?_⟩)
  first | (intro acts; rw [hret _ acts rfl rfl rfl]) | rw [hret _ _ rfl rfl rfl]
  exact Steps.refl _
/-- what holds at the law's entry: the machine, the code, the tables' words (any of lw_tbl by 'hts w (by decide +kernel)'), the script of L ints xs at the cell b, what the Statement gives of the start (any of its parts by flat_of_before) -/
def lw_At (p : Program) (s : State) (m : MethodId) (meth : Method) (c : Code) (b L : Nat) (xs : Nat → Int32) : Prop :=
  p.tables.exec = Jvm.exec ∧ c.code = code ∧ meth.sig.returnType = ret ∧ c.maxLocals = 7 ∧ s.vm.findClass R_law = some m.cls ∧ (∀ w ∈ lw_tbl, w.before #[Value.ref b] s = true) ∧ va_X b L xs s s.heap ∧ b < s.heap.size ∧ meth.locks = false ∧ (Jvm.Cond.and given_1 narrow_1).before #[Value.ref b] s = true
/-! The law's start: what the small machine's memory is there, and the claim out of the law's run. -/
def svM (v : Nat) : List Int32 := [[], [], [5, 2, 9, 99, 5000], [9, 99, 5000], [9, 99], [9, 99, 5, 2], [100], []].getD v []
/-- the memory at the law's entry: the script, and the six rows of numbers -/
def m0M (L : Nat) (xs : Nat → Int32) : Mem := ((fun v => if v = 1 then (2, L) else if 2 ≤ v ∧ v < 8 then (2, (svM v).length) else (0, 0)), 8, (fun v j => if v = 1 then xs j else if 2 ≤ v ∧ v < 8 then (svM v).getD j 0 else 0), fun _ _ => 0)
theorem nr_at {args : Array Value} {s : State} (h : (Jvm.Cond.and given_1 narrow_1).before args s = true) (i : Nat) {w : Cond} (hw : (flatC (Jvm.Cond.and given_1 narrow_1))[i]? = some w) : w.before args s = true := flat_of_before _ h w (List.mem_of_getElem? hw)
set_option maxRecDepth 100000 in
theorem sr_0 {args : Array Value} {s : State} (h : (Jvm.Cond.and given_1 narrow_1).before args s = true) : ∃ t : Nat, (Term.static RX4 (snM 0) "[I").eval args s none [] s = some (.ref t) ∧ va_T .int t (svM 2).length (fun j => .int ((svM 2).getD j 0)) (fun q => s.heap.size ≤ q) s s.heap := by
  refine va_Tof (tm := (Term.static RX4 (snM 0) "[I")) (ty := .int) (N := (svM 2).length) (f := fun j => .int ((svM 2).getD j 0)) (by decide) (nr_at h 5 rfl) (va_eqt (nr_at h 6 rfl)) (fun j hj => ?_) (fun a ha => Nat.not_le.mpr ha)
  have hj : j < 5 := hj
  rcases (show j = 0 ∨ j = 1 ∨ j = 2 ∨ j = 3 ∨ j = 4 by omega) with rfl | rfl | rfl | rfl | rfl
  · exact va_eqt (nr_at h 7 rfl)
  · exact va_eqt (nr_at h 8 rfl)
  · exact va_eqt (nr_at h 9 rfl)
  · exact va_eqt (nr_at h 10 rfl)
  · exact va_eqt (nr_at h 11 rfl)
set_option maxRecDepth 100000 in
theorem sr_1 {args : Array Value} {s : State} (h : (Jvm.Cond.and given_1 narrow_1).before args s = true) : ∃ t : Nat, (Term.static RX4 (snM 1) "[I").eval args s none [] s = some (.ref t) ∧ va_T .int t (svM 3).length (fun j => .int ((svM 3).getD j 0)) (fun q => s.heap.size ≤ q) s s.heap := by
  refine va_Tof (tm := (Term.static RX4 (snM 1) "[I")) (ty := .int) (N := (svM 3).length) (f := fun j => .int ((svM 3).getD j 0)) (by decide) (nr_at h 13 rfl) (va_eqt (nr_at h 14 rfl)) (fun j hj => ?_) (fun a ha => Nat.not_le.mpr ha)
  have hj : j < 3 := hj
  rcases (show j = 0 ∨ j = 1 ∨ j = 2 by omega) with rfl | rfl | rfl
  · exact va_eqt (nr_at h 15 rfl)
  · exact va_eqt (nr_at h 16 rfl)
  · exact va_eqt (nr_at h 17 rfl)
set_option maxRecDepth 100000 in
theorem sr_2 {args : Array Value} {s : State} (h : (Jvm.Cond.and given_1 narrow_1).before args s = true) : ∃ t : Nat, (Term.static RX4 (snM 2) "[I").eval args s none [] s = some (.ref t) ∧ va_T .int t (svM 4).length (fun j => .int ((svM 4).getD j 0)) (fun q => s.heap.size ≤ q) s s.heap := by
  refine va_Tof (tm := (Term.static RX4 (snM 2) "[I")) (ty := .int) (N := (svM 4).length) (f := fun j => .int ((svM 4).getD j 0)) (by decide) (nr_at h 19 rfl) (va_eqt (nr_at h 20 rfl)) (fun j hj => ?_) (fun a ha => Nat.not_le.mpr ha)
  have hj : j < 2 := hj
  rcases (show j = 0 ∨ j = 1 by omega) with rfl | rfl
  · exact va_eqt (nr_at h 21 rfl)
  · exact va_eqt (nr_at h 22 rfl)
set_option maxRecDepth 100000 in
theorem sr_3 {args : Array Value} {s : State} (h : (Jvm.Cond.and given_1 narrow_1).before args s = true) : ∃ t : Nat, (Term.static RX4 (snM 3) "[I").eval args s none [] s = some (.ref t) ∧ va_T .int t (svM 5).length (fun j => .int ((svM 5).getD j 0)) (fun q => s.heap.size ≤ q) s s.heap := by
  refine va_Tof (tm := (Term.static RX4 (snM 3) "[I")) (ty := .int) (N := (svM 5).length) (f := fun j => .int ((svM 5).getD j 0)) (by decide) (nr_at h 24 rfl) (va_eqt (nr_at h 25 rfl)) (fun j hj => ?_) (fun a ha => Nat.not_le.mpr ha)
  have hj : j < 4 := hj
  rcases (show j = 0 ∨ j = 1 ∨ j = 2 ∨ j = 3 by omega) with rfl | rfl | rfl | rfl
  · exact va_eqt (nr_at h 26 rfl)
  · exact va_eqt (nr_at h 27 rfl)
  · exact va_eqt (nr_at h 28 rfl)
  · exact va_eqt (nr_at h 29 rfl)
set_option maxRecDepth 100000 in
theorem sr_4 {args : Array Value} {s : State} (h : (Jvm.Cond.and given_1 narrow_1).before args s = true) : ∃ t : Nat, (Term.static RX4 (snM 4) "[I").eval args s none [] s = some (.ref t) ∧ va_T .int t (svM 6).length (fun j => .int ((svM 6).getD j 0)) (fun q => s.heap.size ≤ q) s s.heap := by
  refine va_Tof (tm := (Term.static RX4 (snM 4) "[I")) (ty := .int) (N := (svM 6).length) (f := fun j => .int ((svM 6).getD j 0)) (by decide) (nr_at h 31 rfl) (va_eqt (nr_at h 32 rfl)) (fun j hj => ?_) (fun a ha => Nat.not_le.mpr ha)
  have hj : j < 1 := hj
  rcases (show j = 0 by omega) with rfl
  · exact va_eqt (nr_at h 33 rfl)
set_option maxRecDepth 100000 in
theorem sr_5 {args : Array Value} {s : State} (h : (Jvm.Cond.and given_1 narrow_1).before args s = true) : ∃ t : Nat, (Term.static RX4 (snM 5) "[I").eval args s none [] s = some (.ref t) ∧ va_T .int t (svM 7).length (fun j => .int ((svM 7).getD j 0)) (fun q => s.heap.size ≤ q) s s.heap := by
  refine va_Tof (tm := (Term.static RX4 (snM 5) "[I")) (ty := .int) (N := (svM 7).length) (f := fun j => .int ((svM 7).getD j 0)) (by decide) (nr_at h 35 rfl) (va_eqt (nr_at h 36 rfl)) (fun j hj => ?_) (fun a ha => Nat.not_le.mpr ha)
  have hj : j < 0 := hj
  exact absurd hj (Nat.not_lt_zero j)
set_option maxRecDepth 100000 in
theorem nc_all {args : Array Value} {s : State} (h : (Jvm.Cond.and given_1 narrow_1).before args s = true) : ∀ a b, 1 ≤ a → a < 4 → 1 ≤ b → b < 4 → a ≠ b → va_Nc (exM a) (exM b) s := by
  intro a b h1 h2 h3 h4 h5
  rcases (show (a = 2 ∧ b = 1) ∨ (a = 3 ∧ b = 1) ∨ (a = 1 ∧ b = 2) ∨ (a = 3 ∧ b = 2) ∨ (a = 1 ∧ b = 3) ∨ (a = 2 ∧ b = 3) by omega) with ⟨rfl, rfl⟩ | ⟨rfl, rfl⟩ | ⟨rfl, rfl⟩ | ⟨rfl, rfl⟩ | ⟨rfl, rfl⟩ | ⟨rfl, rfl⟩
  · exact va_Nc.of (nr_at h 45 rfl)
  · exact va_Nc.of (nr_at h 46 rfl)
  · exact va_Nc.of (nr_at h 53 rfl)
  · exact va_Nc.of (nr_at h 54 rfl)
  · exact va_Nc.of (nr_at h 61 rfl)
  · exact va_Nc.of (nr_at h 62 rfl)
theorem st_words : (∀ i, i < 6 → Cond.laysStatic RX4 (snM i) "[I" ∈ lw_tbl) ∧ Cond.initialized RX4 ∈ lw_tbl ∧ Cond.laysStatic Bundle.tN "UNASSIGNED_STACK" Bundle.steD ∈ lw_tbl ∧ Cond.laysStatic Bundle.tN "SUPPRESSED_SENTINEL" Bundle.listD ∈ lw_tbl ∧ Cond.initialized Bundle.tN ∈ lw_tbl ∧ Cond.arrayOver (.object RX2) ∈ lw_tbl := by
  refine ⟨fun i h => ?_, by decide +kernel, by decide +kernel, by decide +kernel, by decide +kernel, by decide +kernel⟩
  rcases (show i = 0 ∨ i = 1 ∨ i = 2 ∨ i = 3 ∨ i = 4 ∨ i = 5 by omega) with rfl | rfl | rfl | rfl | rfl | rfl <;> decide +kernel
theorem sr_all {args : Array Value} {s : State} (h : (Jvm.Cond.and given_1 narrow_1).before args s = true) : ∀ i, i < 6 → ∃ t : Nat, (Term.static RX4 (snM i) "[I").eval args s none [] s = some (.ref t) ∧ va_T .int t (svM (i + 2)).length (fun j => .int ((svM (i + 2)).getD j 0)) (fun q => s.heap.size ≤ q) s s.heap := by
  intro i hi
  rcases (show i = 0 ∨ i = 1 ∨ i = 2 ∨ i = 3 ∨ i = 4 ∨ i = 5 by omega) with rfl | rfl | rfl | rfl | rfl | rfl
  · exact sr_0 h
  · exact sr_1 h
  · exact sr_2 h
  · exact sr_3 h
  · exact sr_4 h
  · exact sr_5 h
theorem ar_kn {args : Array Value} {s : State} {ty : FieldType} (hne : ∀ C, ty ≠ .object C) (h : (Cond.arrayClass ty).before args s = true) : ∃ cA : ClassId, ArrOfT s cA ty ∧ va_RA s cA ty := by
  obtain ⟨cA, kA, comp, h1, h2, h3⟩ := Cond.arrayClass_spec h
  refine ⟨cA, fun N z => ⟨(fun k h => by cases h), kA, h2, comp, h3⟩, ?_⟩
  cases ty <;> first | exact absurd rfl (hne _) | exact h1
theorem ar_ko {args : Array Value} {s : State} {C : String} (h : (Cond.arrayOver (.object C)).before args s = true) : ∃ cA : ClassId, ArrOfT s cA (.object C) ∧ va_RA s cA (.object C) := by
  obtain ⟨comp, cA, kA, h1, h2, h3, h4, h5⟩ := Cond.arrayOver_spec h
  exact ⟨cA, fun N z => ⟨(fun k h => by cases h), kA, h3, comp, h4⟩, kA, comp, h3, h4, h1, h5⟩
set_option maxRecDepth 100000 in
theorem Ev_start {p : Program} {s : State} {m : MethodId} {meth : Method} {c : Code} {b L : Nat} {xs : Nat → Int32} (hL : L ≤ 3072) (C0 : lw_At p s m meth c b L xs) :
    ∃ G : GlM, EvG G s ∧ gB G = s.heap.size ∧ (∀ v, 1 ≤ v → v < 8 → tkM (m0M L xs) v = (2, gN G v) ∧ ∀ j, rdM (m0M L xs) v j = gM G v j) ∧ gA G 1 = b := by
  obtain ⟨hx, hb, hr, hml, hown, hts, hX, hbl, hlk, hgv⟩ := C0
  have hkn : ∀ ci, ∃ q : ClassId × (Nat → Nat), ci < 6 → u_Kn s (clM ci).1 (clM ci).2.1 (clM ci).2.2 q.1 q.2 := by
    intro ci
    by_cases h : ci < 6
    · obtain ⟨cC, iS, hk⟩ := u_known (C := (clM ci).1) (T := (clM ci).2.1) (N := (clM ci).2.2) hts (fun w hw => (List.mem_filter.mp (cl_ws ci h w hw)).1) (hts _ (cl_wd ci h).1)
      exact ⟨(cC, iS), fun _ => hk⟩
    · exact ⟨(0, fun _ => 0), fun z => absurd z h⟩
  obtain ⟨w1, w2, w3, w4⟩ := ar_wd
  obtain ⟨x1, x2, x3, x4, x5, x6⟩ := st_words
  obtain ⟨c2, a2⟩ := ar_kn (ty := .int) (fun C z => by cases z) (hts _ w1)
  obtain ⟨c3, a3⟩ := ar_kn (ty := .boolean) (fun C z => by cases z) (hts _ w2)
  obtain ⟨c4, a4⟩ := ar_kn (ty := .char) (fun C z => by cases z) (hts _ w3)
  obtain ⟨c5, a5⟩ := ar_kn (ty := .long) (fun C z => by cases z) (hts _ w4)
  obtain ⟨c6, a6⟩ := ar_ko (C := RX2) (hts _ x6)
  have hst : ∀ i, ∃ t : Nat, i < 6 → (Term.static RX4 (snM i) "[I").eval #[Value.ref b] s none [] s = some (.ref t) ∧ va_T .int t (svM (i + 2)).length (fun j => .int ((svM (i + 2)).getD j 0)) (fun q => s.heap.size ≤ q) s s.heap := by
    intro i
    by_cases h : i < 6
    · obtain ⟨t, ht⟩ := sr_all hgv i h
      exact ⟨t, fun _ => ht⟩
    · exact ⟨0, fun z => absurd z h⟩
  have hA : ∀ a : Nat, a < s.heap.size → ¬ (fun q : Nat => s.heap.size ≤ q) a := fun a ha => Nat.not_le.mpr ha
  refine ⟨(fun κ => if κ = 2 then c2 else if κ = 3 then c3 else if κ = 4 then c4 else if κ = 5 then c5 else c6, (fun ci => (Classical.choose (hkn ci)).1, fun ci => (Classical.choose (hkn ci)).2), s.heap.size, (fun v => if v = 1 then L else (svM v).length), (fun v j => if v = 1 then xs j else (svM v).getD j 0), fun v => if v = 1 then b else Classical.choose (hst (v - 2))), ⟨fun w hw hk => ?_, ⟨fun ci q hq => ?_, fun i q hq => ?_⟩, fun i hi => ?_, fun v h1 h2 => ?_, ?_, ?_, fun o k t ht => ?_, nc_all hgv, Nat.le_refl _, va_AO.of (hts _ x6)⟩, rfl, fun v h1 h2 => ?_, rfl⟩
  · refine va_Nw.of ?_ (hts w hw)
    cases w <;> first | rfl | cases hk
  · have h6 : ci < 6 := (List.getElem?_eq_some_iff.mp hq).1
    have := cl_at h6
    obtain rfl : clM ci = q := Option.some.inj (this.symm.trans hq)
    exact Classical.choose_spec (hkn ci) h6
  · have h5 : i < 5 := (List.getElem?_eq_some_iff.mp hq).1
    rcases (show i = 0 ∨ i = 1 ∨ i = 2 ∨ i = 3 ∨ i = 4 by omega) with rfl | rfl | rfl | rfl | rfl <;> cases hq
    · exact a2
    · exact a3
    · exact a4
    · exact a5
    · exact a6
  · have h := Classical.choose_spec (hst i) hi
    have e : (fun v => if v = 1 then b else Classical.choose (hst (v - 2))) (i + 2) = Classical.choose (hst i) := by
      dsimp only
      rw [if_neg (by omega)]
    show va_Z RX4 (snM i) "[I" (.ref ((fun v => if v = 1 then b else Classical.choose (hst (v - 2))) (i + 2))) _ s s.heap
    rw [e]
    exact va_Zof (hts _ (x1 i hi)) (hts _ x2) h.1 hA
  · by_cases e : v = 1
    · subst e
      obtain ⟨scr, e1, e2, e3, e4, e5⟩ := hX
      exact ⟨scr, e1, e2, e3, by show L ≤ _; omega, by show _ = Int32.ofNat L; rw [e4], fun j hj => e5 j hj, hA b hbl⟩
    · obtain ⟨u, rfl⟩ : ∃ u, v = u + 2 := ⟨v - 2, by omega⟩
      have h := (Classical.choose_spec (hst u) (by omega)).2
      show va_T .int (if u + 2 = 1 then b else Classical.choose (hst u)) (if u + 2 = 1 then L else (svM (u + 2)).length) (fun j => .int (if u + 2 = 1 then xs j else (svM (u + 2)).getD j 0)) _ s s.heap
      simp only [if_neg e]
      exact h
  · exact vx_Zqof (hts _ x3) (hts _ x5) (nr_at hgv 37 rfl) hA
  · exact vx_Zqof (hts _ x4) (hts _ x5) (nr_at hgv 38 rfl) hA
  · have h := hts _ ht
    cases hc : s.vm.findClass o with
    | none =>
      simp only [Cond.before, Cond.holds, Cond.value, hc, Option.map_none] at h
      cases h
    | some cur =>
      obtain ⟨kk, cf, i, a, -, -, -, -, -, he⟩ := Cond.stringRef_spec hc h
      exact ⟨a, vk_R.of h he⟩
  · by_cases e : v = 1
    · subst e
      exact ⟨rfl, fun j => rfl⟩
    · have e2 : 2 ≤ v ∧ v < 8 := ⟨by omega, h2⟩
      refine ⟨?_, fun j => ?_⟩
      · show (if v = 1 then (2, L) else if 2 ≤ v ∧ v < 8 then (2, (svM v).length) else (0, 0)) = (2, if v = 1 then L else (svM v).length)
        rw [if_neg e, if_pos e2, if_neg e]
      · show (if v = 1 then xs j else if 2 ≤ v ∧ v < 8 then (svM v).getD j 0 else 0) = if v = 1 then xs j else (svM v).getD j 0
        rw [if_neg e, if_pos e2, if_neg e]
