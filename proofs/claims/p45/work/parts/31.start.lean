def R_law : String := "StorageQuotasLaw"
def lw_P (b : Addr) (xs : List Int32) (args : Array Value) (s : State) : Prop := args = #[.ref b] ∧ s.IntsAt b xs ∧ xs.length ≤ 260 ∧ (Jvm.Cond.and given_1 narrow_1).before args s = true
def lw_Q (_ : Array Value) (s : State) (o : Outcome) (t : State) : Prop := o = .returned (some (.int 1)) ∧ Framed s o t [] 600086 7301442
def lw_Z (below : List Frame) (a : Array Value) (s : State) : State → Prop := fun t => ∃ o, t.status = .running ∧ Ended t below o ∧ lw_Q a s o t
/-- the law's own end, with 1 on the stack, nothing written that was there before, its room as the claim has it -/
theorem lw_ret {p : Program} {l : Launch} {e : Env} {s : State} {m : MethodId} {below : List Frame} {meth : Method} {c : Code} {b : Nat} (hx : p.tables.exec = Jvm.exec) (hb : c.code = code) (hr : meth.sig.returnType = ret) (hlocks : meth.locks = false) {pc : Nat} {H : Heap} {ls : Array Slot} (hdg : decode code pc = .ok (.ireturn, 1)) : W p l e room_1 s m #[Value.ref b] below meth c H [] 600086 7301442 (lw_Z below #[Value.ref b] s) (F0 m pc ls [.int 1]) := by
  intro T hT X
  obtain ⟨fs, hret, hrun, hended, hW, hframe⟩ := X.leave (v := some (.int 1)) (hlocks := hlocks) (fun h => by rw [hr] at h; cases h)
  have hmeth' : T.vm.method? m = some meth := X.method'
  refine ⟨T.setFrames fs, ?_, .returned (some (.int 1)), hrun, hended, rfl, ⟨_, rfl⟩, hW, hframe⟩
  jvm_step X.here [X.here.top, hx, hb, hdg, hmeth', hr, ret, narrow_b1]
  (try refine ⟨rfl, ?_⟩); (try refine ⟨rfl, ?_⟩)
  first | (intro acts; rw [hret _ acts rfl rfl rfl]) | rw [hret _ _ rfl rfl rfl]
  exact Steps.refl _
/-- what holds at the law's entry: the machine, the code, the tables' words (any of lw_tbl by 'hts w (by decide +kernel)'), the script of L ints xs at the cell b, what the Statement gives of the start (any of its parts by flat_of_before) -/
def lw_At (p : Program) (s : State) (m : MethodId) (meth : Method) (c : Code) (b L : Nat) (xs : Nat → Int32) : Prop :=
  p.tables.exec = Jvm.exec ∧ c.code = code ∧ meth.sig.returnType = ret ∧ c.maxLocals = 12 ∧ s.vm.findClass R_law = some m.cls ∧ (∀ w ∈ lw_tbl, w.before #[Value.ref b] s = true) ∧ va_X b L xs s s.heap ∧ b < s.heap.size ∧ meth.locks = false ∧ (Jvm.Cond.and given_1 narrow_1).before #[Value.ref b] s = true
/-! The law's start: what the small machine's memory is there. -/
/-- the memory at the law's entry: the script (and seven names of it) -/
def m0M (L : Nat) (xs : Nat → Int32) : Mem := ((fun v => if 1 ≤ v ∧ v < 8 then (2, L) else (0, 0)), 8, (fun v j => if 1 ≤ v ∧ v < 8 then xs j else 0), fun _ _ => 0)
theorem st_words : Cond.initialized RX4 ∈ lw_tbl ∧ Cond.arrayOver (.object RX2) ∈ lw_tbl := ⟨by decide +kernel, by decide +kernel⟩
theorem ar_kn {args : Array Value} {s : State} {ty : FieldType} (hne : ∀ C, ty ≠ .object C) (h : (Cond.arrayClass ty).before args s = true) : ∃ cA : ClassId, ArrOfT s cA ty ∧ va_RA s cA ty := by
  obtain ⟨cA, kA, comp, h1, h2, h3⟩ := Cond.arrayClass_spec h
  refine ⟨cA, fun N z => ⟨(fun k h => by cases h), kA, h2, comp, h3⟩, ?_⟩
  cases ty <;> first | exact absurd rfl (hne _) | exact h1
theorem ar_ko {args : Array Value} {s : State} {C : String} (h : (Cond.arrayOver (.object C)).before args s = true) : ∃ cA : ClassId, ArrOfT s cA (.object C) ∧ va_RA s cA (.object C) := by
  obtain ⟨comp, cA, kA, h1, h2, h3, h4, h5⟩ := Cond.arrayOver_spec h
  exact ⟨cA, fun N z => ⟨(fun k h => by cases h), kA, h3, comp, h4⟩, kA, comp, h3, h4, h1, h5⟩
set_option maxRecDepth 100000 in
theorem Ev_start {p : Program} {s : State} {m : MethodId} {meth : Method} {c : Code} {b L : Nat} {xs : Nat → Int32} (hL : L ≤ 260) (C0 : lw_At p s m meth c b L xs) :
    ∃ G : GlM, EvG G s ∧ gB G = s.heap.size ∧ (∀ v, 1 ≤ v → v < 8 → tkM (m0M L xs) v = (2, gN G v) ∧ ∀ j, rdM (m0M L xs) v j = gM G v j) ∧ gA G 1 = b := by
  obtain ⟨hx, hb, hr, hml, hown, hts, hX, hbl, hlk, hgv⟩ := C0
  have hkn : ∀ ci, ∃ q : ClassId × (Nat → Nat), ci < 5 → u_Kn s (clM ci).1 (clM ci).2.1 (clM ci).2.2 q.1 q.2 := by
    intro ci
    by_cases h : ci < 5
    · obtain ⟨cC, iS, hk⟩ := u_known (C := (clM ci).1) (T := (clM ci).2.1) (N := (clM ci).2.2) hts (fun w hw => (List.mem_filter.mp (cl_ws ci h w hw)).1) (hts _ (cl_wd ci h).1)
      exact ⟨(cC, iS), fun _ => hk⟩
    · exact ⟨(0, fun _ => 0), fun z => absurd z h⟩
  obtain ⟨w1, w2, w3⟩ := ar_wd
  obtain ⟨x2, x6⟩ := st_words
  obtain ⟨c2, a2⟩ := ar_kn (ty := .int) (fun C z => by cases z) (hts _ w1)
  obtain ⟨c3, a3⟩ := ar_kn (ty := .boolean) (fun C z => by cases z) (hts _ w2)
  obtain ⟨c4, a4⟩ := ar_kn (ty := .char) (fun C z => by cases z) (hts _ w3)
  obtain ⟨c6, a6⟩ := ar_ko (C := RX2) (hts _ x6)
  have hA : ∀ a : Nat, a < s.heap.size → ¬ (fun q : Nat => s.heap.size ≤ q) a := fun a ha => Nat.not_le.mpr ha
  refine ⟨(fun κ => if κ = 2 then c2 else if κ = 3 then c3 else if κ = 4 then c4 else c6, (fun ci => (Classical.choose (hkn ci)).1, fun ci => (Classical.choose (hkn ci)).2), s.heap.size, (fun _ => L), (fun _ j => xs j), fun _ => b), ⟨fun w hw hk => ?_, ⟨fun ci q hq => ?_, fun i q hq => ?_⟩, fun v h1 h2 => ?_, Nat.le_refl _, va_AO.of (hts _ x6)⟩, rfl, fun v h1 h2 => ?_, rfl⟩
  · refine va_Nw.of ?_ (hts w hw)
    cases w <;> first | rfl | cases hk
  · have h6 : ci < 5 := (List.getElem?_eq_some_iff.mp hq).1
    have := cl_at h6
    obtain rfl : clM ci = q := Option.some.inj (this.symm.trans hq)
    exact Classical.choose_spec (hkn ci) h6
  · have h5 : i < 4 := (List.getElem?_eq_some_iff.mp hq).1
    rcases (show i = 0 ∨ i = 1 ∨ i = 2 ∨ i = 3 by omega) with rfl | rfl | rfl | rfl <;> cases hq
    · exact a2
    · exact a3
    · exact a4
    · exact a6
  · obtain ⟨scr, e1, e2, e3, e4, e5⟩ := hX
    exact ⟨scr, e1, e2, e3, by show L ≤ _; omega, by show _ = Int32.ofNat L; rw [e4], fun j hj => e5 j hj, hA b hbl⟩
  · refine ⟨?_, fun j => ?_⟩
    · show (if 1 ≤ v ∧ v < 8 then (2, L) else (0, 0)) = (2, L)
      rw [if_pos ⟨h1, h2⟩]
    · show (if 1 ≤ v ∧ v < 8 then xs j else 0) = xs j
      rw [if_pos ⟨h1, h2⟩]
