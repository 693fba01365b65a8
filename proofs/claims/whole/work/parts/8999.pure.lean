/-! ===== the pure end ===== -/
set_option maxRecDepth 100000 in
theorem S0_z : (S0.map ab_z).sum ≤ 100000 := by decide
set_option maxRecDepth 100000 in
theorem S0_len : S0.length = 221 := rfl
/-- the law's function answers 1 within the room -/
theorem pu_law (Ln : Nat) (xs : Nat → Int32) (h : Ln ≤ 3072) : ∃ m' : ab_Mm, dd_L_law Ln xs ([], fun _ _ => 0, fun _ _ => 0, 0) = some (1, m') ∧ ab_nc m' ≤ 601024 ∧ ab_ns m' ≤ 7293034 := by
  obtain ⟨I, J, a1, a2⟩ := law_start Ln xs
  obtain ⟨I', J', x', b1, b2⟩ := law_loop (Ln := Ln) (xs := xs) h 512 ab_fu 0 I J 0 (by omega) (by omega) (ab_fu_big (by omega)) a2
  have z := S0_z
  have l := S0_len
  refine ⟨(S0, I', J', x'), a1.trans b1, ?_, ?_⟩
  · show S0.length + x' ≤ _
    omega
  · show (S0.map ab_z).sum + 6 * x' ≤ _
    omega
