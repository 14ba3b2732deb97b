theorem law_run (L : Nat) (xs : Nat → Int32) (hL : L ≤ 3072) : ∃ σ', DoM 223 [.ref 1] (m0M L xs) = some (.inl (some (.int 1)), σ') := sorry
