/-! ===== tables: rows put in and taken out, copies ===== -/
section TR
variable {t R C r n : Nat} {I : Nat → Nat → Int32} {J : Nat → Nat → Int64} {x : Nat} {row : Int32}
theorem cp_0 {α : Type} (I : Nat → Nat → α) (r0 sp r1 dp : Nat) : ab_cp I r0 sp r1 dp 0 = I := by
  funext a b
  have h : ¬ (a = r1 ∧ dp ≤ b ∧ b < dp + 0) := by omega
  simp only [ab_cp, h, if_false]
theorem tb_shift {p q k : Nat} (h : tb t R C) (hI : tI I t R C) (hp : p + k ≤ R) (hq : q + k ≤ R) : dd_X10_shift t (nI p) (nI q) (nI k) (S0, I, J, x) = some ((), (S0, ab_cp I (t + 1) (p * C) (t + 1) (q * C) (k * C), J, x)) := by
  have hR := tb_R h
  have hz := h.2.2.1
  unfold dd_X10_shift
  rw [fI_X10_0 h.1, ob_s, hI.1, if_neg (li_pos (by omega)), if_neg (li_pos (by omega))]
  by_cases hk : k = 0
  · subst hk
    rw [if_pos (by rw [li_0, li_le (by omega) (by omega)]; omega), Nat.zero_mul, cp_0]
    rfl
  · rw [if_neg (by rw [li_0, li_le (by omega) (by omega)]; omega)]
    have hmx : (if nI p < nI q then nI q else nI p) = nI (max p q) := by
      by_cases h1 : p < q
      · rw [if_pos (by rw [li_lt (by omega) (by omega)]; exact h1), Nat.max_eq_right (by omega)]
      · rw [if_neg (by rw [li_lt (by omega) (by omega)]; exact h1), Nat.max_eq_left (by omega)]
    have hpq : max p q ≤ R := by omega
    have hpq2 : k ≤ R - max p q := by omega
    rw [hmx, pk_sub hpq, if_neg (by rw [li_lt (by omega) (by omega)]; omega)]
    have hC : C < 100000 := tb_C h (r := 0) (by omega)
    have e1 : (p + k) * C ≤ R * C := Nat.mul_le_mul_right C hp
    have e2 : (q + k) * C ≤ R * C := Nat.mul_le_mul_right C hq
    rw [Nat.add_mul] at e1 e2
    simp only [fI_X10_1 h.1, fR_X10_2 h.1, ob_s, hI.2, pk_mul]
    rw [op_cpI h.2.1 h.2.1 rfl rfl rfl e1 e2 (by omega) (by omega)]
    rfl
theorem tb_insert (h : tb t R C) (hI : tI I t R C) (hn : I t 3 = nI n) (hr : row = nI r) (h1 : r ≤ n) (h2 : n < R) : dd_X10_insertRow t row (S0, I, J, x) = some ((), (S0, ab_u (ab_cp I (t + 1) (r * C) (t + 1) ((r + 1) * C) ((n - r) * C)) t 3 (nI (n + 1)), J, x)) := by
  have hR := tb_R h
  subst hr
  unfold dd_X10_insertRow
  simp only [fI_X10_3 h.1, fI_X10_0 h.1, ob_s, hn, hI.1, rc_X10 h.1]
  rw [if_neg (li_pos (by omega)), if_neg (by rw [li_lt (by omega) (by omega)]; omega), if_neg (by rw [li_le (by omega) (by omega)]; omega), nI_1, pk_sub h1, tb_shift h hI (by omega) (by omega), ob_s]
  have e : ab_cp I (t + 1) (r * C) (t + 1) ((r + 1) * C) ((n - r) * C) t 3 = nI n := by
    rw [ab_cp_off _ _ _ _ _ (by omega)]; exact hn
  simp only [fI_X10_3 h.1, ob_s, e, pI_X10_3 h.1, nI_1]
  rfl
theorem tb_remove (h : tb t R C) (hI : tI I t R C) (hn : I t 3 = nI n) (hr : row = nI r) (h1 : r < n) (h2 : n ≤ R) : dd_X10_removeRow t row (S0, I, J, x) = some ((), (S0, ab_u (ab_cp I (t + 1) ((r + 1) * C) (t + 1) (r * C) ((n - r - 1) * C)) t 3 (nI (n - 1)), J, x)) := by
  have hR := tb_R h
  subst hr
  unfold dd_X10_removeRow
  rw [rc_X10 h.1, ob_s, tb_has h.1, ob_s]
  have e0 : (if nI r < 0 then (0 : Int32) else if I t 3 ≤ nI r then 0 else 1) = 1 := by
    rw [if_neg (li_pos (by omega)), hn, if_neg (by rw [li_le (by omega) (by omega)]; omega)]
  simp only [e0]
  rw [if_neg (by decide)]
  simp only [fI_X10_3 h.1, ob_s, hn, rc_X10 h.1]
  have e1 : nI n - nI r - 1 = nI (n - r - 1) := by
    rw [pk_sub (by omega), li_n 1, pk_sub (by omega)]
  rw [nI_1, e1, tb_shift h hI (by omega) (by omega), ob_s]
  have e : ab_cp I (t + 1) ((r + 1) * C) (t + 1) (r * C) ((n - r - 1) * C) t 3 = nI n := by
    rw [ab_cp_off _ _ _ _ _ (by omega)]; exact hn
  have e2 : nI n - 1 = nI (n - 1) := by rw [li_n 1, pk_sub (by omega)]
  simp only [fI_X10_3 h.1, ob_s, e, pI_X10_3 h.1, e2]
  rfl
/-- the copy of a table of the same size -/
theorem tb_copy {u : Nat} (h : tb t R C) (hu : tb u R C) : dd_X10_copyFrom t u (S0, I, J, x) = some ((), (S0, ab_u (ro I (t + 1) (fun b => if b < R * C then I (u + 1) b else I (t + 1) b)) t 3 (ro I (t + 1) (fun b => if b < R * C then I (u + 1) b else I (t + 1) b) u 3), J, x)) := by
  have hz := h.2.2.1
  unfold dd_X10_copyFrom
  simp only [fR_X10_2 h.1, fR_X10_2 hu.1, ob_s]
  rw [op_len h.2.1, ob_s, op_len hu.2.1, ob_s]
  have e : (if nI (R * C) < nI (R * C) then nI (R * C) else nI (R * C)) = nI (R * C) := by split <;> rfl
  rw [e, op_cpI (sp := 0) (dp := 0) hu.2.1 h.2.1 (a := 0) (b := 0) rfl rfl rfl (by omega) (by omega) (by omega) (by omega), ob_s]
  have e2 : ab_cp I (u + 1) 0 (t + 1) 0 (R * C) = ro I (t + 1) (fun b => if b < R * C then I (u + 1) b else I (t + 1) b) := by
    funext a b
    by_cases ha : a = t + 1
    · subst ha
      by_cases hb : b < R * C
      · simp [ab_cp, ro, hb]
      · simp [ab_cp, ro, hb]
    · simp [ab_cp, ro, ha]
  rw [e2, fI_X10_3 hu.1, ob_s, pI_X10_3 h.1, ob_s]
end TR
