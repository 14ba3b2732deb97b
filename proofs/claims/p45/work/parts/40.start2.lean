/-! The claim out of the law's run on the small machine. -/
theorem ok_all (k : Nat) (hk : k < 114) (pc : Nat) (ic : IcM) (h : cdM k pc = some ic) : okM k pc ic = true := by
  have h3 := ck_all k (Nat.zero_le _) hk
  have h1 : pc < 64 * (cdT k).length := by
    have h : ((cdT k).getD (pc / 64) []).getD (pc % 64) none = some ic := h
    by_cases h1 : pc / 64 < (cdT k).length
    · omega
    · rw [List.getD_eq_getElem?_getD (l := cdT k), List.getElem?_eq_none (Nat.le_of_not_lt h1)] at h
      cases h
  have h4 := List.all_eq_true.mp h3 pc (List.mem_range.mpr h1)
  simp only [h] at h4
  exact h4
theorem en_all {L : Nat} {xs : Nat → Int32} {G : GlM} {s : State} (hE : EvG G s) (hrow : ∀ v, 1 ≤ v → v < 8 → tkM (m0M L xs) v = (2, gN G v) ∧ ∀ j, rdM (m0M L xs) v j = gM G v j) : RpM G (gA G) (m0M L xs) s.heap := by
  refine ⟨fun k q h => ?_, ⟨fun i j p q h => ?_, fun k q h => ?_⟩, ⟨Nat.le_refl _, fun v hv => ?_, rfl, fun v j => ?_, hrow⟩, fun v _ _ => rfl⟩
  · cases h
  · cases h
  · cases h
  · have hv : 8 ≤ v := hv
    show (if 1 ≤ v ∧ v < 8 then (2, L) else (0, 0)).1 = 0
    rw [if_neg (by omega)]
  · show 0 < 8
    decide
/-- YOUR PART: from the entry, for every script of at most 260 ints, the law comes to its end with true ('hflags': the launch's flags, for a law that throws: no stack traces) -/
theorem whole_start {p : Program} {e : Env} {s : State} {m : MethodId} {below : List Frame} {meth : Method} {c : Code} (l : Launch) (hflags : l.flags = flags0) {b L : Nat} {xs : Nat → Int32} (hL : L ≤ 260) (C0 : lw_At p s m meth c b L xs) (hnm : meth.name = x.name) : W p l e room_1 s m #[Value.ref b] below meth c s.heap [] 0 0 (lw_Z below #[Value.ref b] s) (entryFrame m ([Value.ref b] : List Value).toArray 12) := by
  obtain ⟨G, hE, hgb, hrow, hA1⟩ := Ev_start hL C0
  obtain ⟨σ', hdo⟩ := law_run L xs hL
  have hw := sim_Do (G := G) (l := l) mt_all ok_all (by decide : (113 : Nat) < 114) hdo
  obtain ⟨hx, hb, hr, hml, hown, hts, hX, hbl, hlk, hgv⟩ := C0
  have hA : AcM G l 113 p room_1 s m #[Value.ref b] meth c := ⟨⟨hx, hb, hml, hr, hlk, hnm, hown⟩, fun w h1 _ => hts w h1, hE, by decide, by decide, by decide, by decide⟩
  have hR : RpM G (gA G) (m0M L xs) s.heap := en_all hE hrow
  have has : ∀ v ∈ ([.ref 1] : List Value), isOne v = true := by
    intro v hv
    obtain rfl : v = .ref 1 := List.mem_singleton.mp hv
    rfl
  have hav : ∀ v ∈ ([.ref 1] : List Value), vkM (nxM (m0M L xs)) v = true := by
    intro v hv
    obtain rfl : v = .ref 1 := List.mem_singleton.mp hv
    rfl
  have e0 : ([Value.ref 1] : List Value).map (vaM (gA G)) = [Value.ref b] := by
    show [Value.ref (gA G 1)] = _
    rw [hA1]
  have hlv := lv_entry (([.ref 1] : List Value).map (vaM (gA G))) (n := mxM 113) (by rw [lg_len (gA G) _ has]; decide)
  obtain ⟨a1, a2⟩ := lv_args_at (gA G) ([.ref 1] : List Value) 0 has
  suffices K : W p l e room_1 s m #[Value.ref b] below meth c s.heap [] 0 0 (lw_Z below #[Value.ref b] s) (entryFrame m (([.ref 1] : List Value).map (vaM (gA G))).toArray (mxM 113)) by
    rw [e0] at K
    exact K
  rw [lg_entry_eq]
  refine hw p e _ s m _ below meth c (gA G) s.heap [] _ _ [] hA hR va_S.rf ⟨_, hlv, fun q hq => Or.inl (a2 q hq), fun i v hv => ?_⟩ ⟨rfl, fun v h => by cases h⟩ ?_
  · have h1 := en_get hv
    have h2 := a1 i v h1
    rw [Nat.zero_add] at h2
    exact ⟨h2, hav v (List.mem_of_getElem? h1)⟩
  · intro ad' H' locs' kc ks pc ls h1 h2 h3 h4 h5 h6 h7 h8
    refine va_forget (fun q hq => ?_) (W.widen (Nat.le_trans h5 (by decide)) (Nat.le_trans h6 (by decide)) (lw_ret hx hb hr hlk h7.1))
    have := h4.2.2 q hq
    show s.heap.size ≤ _
    rw [← hgb]
    exact this
