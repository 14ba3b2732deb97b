/-! The model's public methods: limits, grace periods, exemptions, the text's buffer, undo and slots. -/
abbrev arP (s w : Int32) : Prop := inP s (nQ 0) (nQ 100000) ∧ inP w (nQ 0) (nQ 100000) ∧ (s = nQ 0 ∨ w = nQ 0 ∨ ¬ w < s)
section Mk
variable {σ : Mem} {b : Nat} {d : Nat → Nat → Int32}
def slF (f : Nat → Int32) (n a r : Nat) (s z : Int32) : Nat → Int32 := rvF (up (up f (245 + 2 * a + r) s) (263 + 2 * a + r) z) n a r
def glF (f : Nat → Int32) (a r : Nat) : Int32 := if f (281 + 2 * a + r) = -1 then -1 else if f (1 + r) - (f 0 - f (281 + 2 * a + r)) < nQ 0 then nQ 0 else f (1 + r) - (f 0 - f (281 + 2 * a + r))
def avF (f : Nat → Int32) (n a r : Nat) : Int32 := if ovF f (f (281 + (2 * a + r))) (f 0) r then nQ 0 else if f (263 + (2 * a + r)) = nQ 0 then -2 else if f (263 + (2 * a + r)) - usF f (nQ a) r n < nQ 0 then nQ 0 else f (263 + (2 * a + r)) - usF f (nQ a) r n
end Mk
