set_option maxRecDepth 100000 in
theorem tr_29 (D : Nat → List Value → Mem → Option OutM) (R : FrM → Mem → Option OutM) (b : Nat) (v : Int32) (σ : Mem) : stC D R 29 [] 40 (0, [some (.ref b), some (.int v)], [], 0, 0) σ =
  (if tkM σ b = (1, 2) then (if aOk 2 σ (prM σ b 6) v then (if rdM σ (prM σ b 6) v.toNatClampNeg = -1 then some (.inl (some (.int 0)), σ) else some (.inl (some (.int 1)), σ)) else none) else none) := rfl
