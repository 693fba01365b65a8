/-- the pure end: the law's function answers 1 within the room -/
theorem pu_law (Ln : Nat) (xs : Nat → Int32) (h : Ln ≤ 3072) : ∃ m' : ab_Mm, dd_L_law Ln xs ([], fun _ _ => 0, fun _ _ => 0, 0) = some (1, m') ∧ ab_nc m' ≤ 601024 ∧ ab_ns m' ≤ 7293034 := sorry
