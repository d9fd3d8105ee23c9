/-- WHAT IS LEFT: the law's loop at level 2 -/
theorem zlaw (L : Nat) (xs : Nat → Int32) (hL : L ≤ 3072) : ∃ z', xruns (O2 L) (zden L 9) 164 18 [.ref 0, .ref 1, .ref 136, .int 0] [] (z0 xs) = some (1, z') := sorry
