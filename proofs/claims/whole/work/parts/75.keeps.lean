/-! ===== the model keeps, takes back, saves ===== -/
section KP
variable {I I' : Nat → Nat → Int32} {J J' : Nat → Nat → Int64} {x : Nat} {NH NY NE NR s d u tp : Nat} {f g : Nat → Int64} {H S : Nat → Nat → Int64} {b : Nat → Bool}
theorem sh_214 : S0[216]? = some (4, 116, []) := rfl
theorem sh_215 : S0[217]? = some (4, 1160, []) := rfl
theorem sh_216 : S0[218]? = some (4, 232, []) := rfl
theorem sh_217 : S0[219]? = some (3, 2, []) := rfl
theorem m_R28 : ab_fR (S0, I, J, x) 12 200 28 = some 216 := fR_X12_28 okM
theorem m_R30 : ab_fR (S0, I, J, x) 12 200 30 = some 217 := fR_X12_30 okM
theorem m_R31 : ab_fR (S0, I, J, x) 12 200 31 = some 218 := fR_X12_31 okM
theorem m_R32 : ab_fR (S0, I, J, x) 12 200 32 = some 219 := fR_X12_32 okM
theorem m_F29 : ab_fI (S0, I, J, x) 12 200 29 = some (I 200 29) := fI_X12_29 okM
theorem m_P29 (v : Int32) : ab_pI (S0, I, J, x) 12 200 29 v = some (S0, ab_u I 200 29 v, J, x) := pI_X12_29 okM v
theorem cp_s {r0 r1 a c j : Nat} (h : r0 ≠ r1 ∨ c ≤ a) : ab_u (ab_cp J r0 a r1 c j) r1 (c + j) (ab_cp J r0 a r1 c j r0 (a + j)) = ab_cp J r0 a r1 c (j + 1) := by
  have e : ab_cp J r0 a r1 c j r0 (a + j) = J r0 (a + j) := by
    unfold ab_cp
    rw [if_neg (by omega)]
  rw [e]
  funext r k
  show (if r = r1 ∧ k = c + j then J r0 (a + j) else if r = r1 ∧ c ≤ k ∧ k < c + j then J r0 (a + (k - c)) else J r k) = if r = r1 ∧ c ≤ k ∧ k < c + (j + 1) then J r0 (a + (k - c)) else J r k
  by_cases e1 : r = r1 ∧ k = c + j
  · rw [if_pos e1, if_pos ⟨e1.1, by omega, by omega⟩, show a + (k - c) = a + j by omega]
  · rw [if_neg e1]
    by_cases e2 : r = r1 ∧ c ≤ k ∧ k < c + j
    · rw [if_pos e2, if_pos ⟨e2.1, by omega, by omega⟩]
    · rw [if_neg e2, if_neg (fun w => e2 ⟨w.1, w.2.1, by
        have : k ≠ c + j := fun q => e1 ⟨w.1, q⟩
        omega⟩)]
theorem m_copies {r0 r1 n0 n1 a c n : Nat} (h0 : S0[r0]? = some (4, n0, [])) (h1 : S0[r1]? = some (4, n1, [])) (ha : a + n ≤ n0) (hb : c + n ≤ n1) (z0 : n0 < 100000) (z1 : n1 < 100000) (hne : r0 ≠ r1 ∨ c ≤ a) : dd_X12_copies r0 (nI a) r1 (nI c) (nI n) (S0, I, J, x) = some ((), (S0, I, ab_cp J r0 a r1 c n, x)) := by
  have loop : ∀ (k n' j : Nat), j + k = n → k < n' → bb_X12_copies_3 n' r0 (nI a) r1 (nI c) (nI n) (nI j) (S0, I, ab_cp J r0 a r1 c j, x) = some ((), (S0, I, ab_cp J r0 a r1 c n, x)) := by
    intro k
    induction k with
    | zero =>
      intro n' j h2 h3
      obtain ⟨n', rfl⟩ : ∃ q, n' = q + 1 := ⟨n' - 1, by omega⟩
      rw [bb_X12_copies_3, if_pos (by rw [li_le (by omega) (by omega)]; omega), show j = n by omega]
    | succ k ih =>
      intro n' j h2 h3
      obtain ⟨n', rfl⟩ : ∃ q, n' = q + 1 := ⟨n' - 1, by omega⟩
      rw [bb_X12_copies_3, if_neg (by rw [li_le (by omega) (by omega)]; omega), li_add, li_add, op_ldJ h0 rfl (by omega) (by omega), ob_s, op_stJ _ h1 rfl (by omega) (by omega), ob_s, cp_s hne, nI_1]
      exact ih n' (j + 1) (by omega) (by omega)
  have q := loop n ab_fu 0 (by omega) (ab_fu_big (by omega))
  rw [cp_0] at q
  exact q
theorem cpJ_off {r0 r1 a c n r : Nat} (h : r ≠ r1) : ab_cp J r0 a r1 c n r = J r := by
  funext k
  unfold ab_cp
  rw [if_neg (fun w => h w.1)]
theorem cpJ_in {r0 r1 a c n i : Nat} (h : i < n) : ab_cp J r0 a r1 c n r1 (c + i) = J r0 (a + i) := by
  unfold ab_cp
  rw [if_pos ⟨rfl, by omega, by omega⟩, show a + (c + i - c) = a + i by omega]
theorem cpJ_out {r0 r1 a c n k : Nat} (h : k < c ∨ c + n ≤ k) : ab_cp J r0 a r1 c n r1 k = J r1 k := by
  unfold ab_cp
  rw [if_neg (by omega)]
theorem m_keeps40 {v : Nat} (hv : v < 10) (hu : I 200 29 = nI v) : bb_X12_keeps_40 200 (S0, I, J, x) = some ((), (S0, ab_u I 200 29 (nI (v + 1)), ab_cp J 201 0 217 (116 * v) 116, x)) := by
  unfold bb_X12_keeps_40
  rw [m_R1, ob_s, m_R30, ob_s, m_F29, ob_s, hu, li_n 116, li_mul, li_0, m_copies sh_199 sh_215 (by omega) (by omega) (by omega) (by omega) (by omega), ob_s, m_F29, ob_s, hu, nI_1, m_P29, ob_s]
theorem m_keeps (h : InvM I J f u H b S) (h10 : u ≤ 10) : ∃ I' J', dd_X12_keeps 200 (S0, I, J, x) = some ((), (S0, I', J', x)) ∧ InvM I' J' f (min (u + 1) 10) (cns f H) b S ∧ (∀ r, r ≠ 200 → I' r = I r) ∧ (∀ k, k ≠ 29 → I' 200 k = I 200 k) ∧ (∀ r, r ≠ 217 → J' r = J r) := by
  obtain ⟨hf, ⟨hu, hh⟩, hs⟩ := h
  have fin : ∀ (v : Nat) (I1 : Nat → Nat → Int32) (J1 : Nat → Nat → Int64), v < 10 → v + 1 = min (u + 1) 10 → I1 200 29 = nI v → (∀ r, r ≠ 200 → I1 r = I r) → (∀ k, k ≠ 29 → I1 200 k = I 200 k) → (∀ r, r ≠ 217 → J1 r = J r) → (∀ k, k < v → ∀ i, i < 116 → J1 217 (116 * (v - 1 - k) + i) = H k i) →
      ∃ I' J', bb_X12_keeps_40 200 (S0, I1, J1, x) = some ((), (S0, I', J', x)) ∧ InvM I' J' f (min (u + 1) 10) (cns f H) b S ∧ (∀ r, r ≠ 200 → I' r = I r) ∧ (∀ k, k ≠ 29 → I' 200 k = I 200 k) ∧ (∀ r, r ≠ 217 → J' r = J r) := by
    intro v I1 J1 hv hm e1 e2 e3 e4 e5
    refine ⟨_, _, m_keeps40 hv e1, ⟨?_, ⟨?_, fun k hk i hi => ?_⟩, fun t ht => ⟨?_, fun hb i hi => ?_⟩⟩, fun r hr => ?_, fun k hk => ?_, fun r hr => ?_⟩
    · rw [cpJ_off (by omega), e4 201 (by omega)]; exact hf
    · rw [u_e, hm]
    · rw [← hm] at hk ⊢
      unfold cns
      by_cases e : k = 0
      · rw [if_pos e, e, show 116 * (v + 1 - 1 - 0) + i = 116 * v + i by omega, cpJ_in hi, Nat.zero_add, e4 201 (by omega), hf]
      · rw [if_neg e, cpJ_out (by omega), ← e5 (k - 1) (by omega) i hi]
        exact congrArg (J1 217) (by omega)
    · rw [u_r (by omega), e2 219 (by omega)]; exact (hs t ht).1
    · rw [cpJ_off (by omega), e4 218 (by omega)]; exact (hs t ht).2 hb i hi
    · rw [u_r hr]; exact e2 r hr
    · rw [u_k hk]; exact e3 k hk
    · rw [cpJ_off hr]; exact e4 r hr
  unfold dd_X12_keeps
  rw [m_F29, ob_s, hu]
  by_cases e : u = 10
  · have e9 : nI 10 - 1 = nI 9 := rfl
    subst e
    rw [if_pos (show nI 10 = 10 from rfl), ob_s, e9, m_P29, ob_s, m_R30, ob_s, ob_s, m_F29, ob_s, u_e, li_n 116, li_mul, li_0, m_copies sh_215 sh_215 (by omega) (by omega) (by omega) (by omega) (by omega), ob_s]
    refine fin 9 (ab_u I 200 29 (nI 9)) (ab_cp J 217 116 217 0 (116 * 9)) (by omega) (by omega) u_e (fun r hr => u_r hr) (fun k hk => u_k hk) (fun r hr => cpJ_off hr) (fun k hk i hi => ?_)
    have q := @cpJ_in J 217 217 116 0 (116 * 9) (116 * (9 - 1 - k) + i) (by omega)
    rw [Nat.zero_add] at q
    rw [q, ← hh k (by omega) i hi]
    exact congrArg (J 217) (by omega)
  · rw [if_neg (by rw [li_n 10, li_eq (by omega) (by omega)]; exact e)]
    exact fin u I J (by omega) (by omega) hu (fun _ _ => rfl) (fun _ _ => rfl) (fun _ _ => rfl) hh
end KP
