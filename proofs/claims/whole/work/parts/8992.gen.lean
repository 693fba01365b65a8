/-! ===== tables over any shapes ===== -/
abbrev ok_X9_g (S : List ab_Sh) (s : Nat) : Prop := S[s]? = some (0, 9, [some (some (s + 1)), none, some (some (s + 2))])
section
variable {S : List ab_Sh}
theorem rc_X9_g {s : Nat} {I : Nat → Nat → Int32} {J : Nat → Nat → Int64} {x : Nat} (h : ok_X9_g S s) : ab_rc (S, I, J, x) 9 s = some () := op_rc h
theorem fR_X9_0_g {s : Nat} {I : Nat → Nat → Int32} {J : Nat → Nat → Int64} {x : Nat} (h : ok_X9_g S s) : ab_fR (S, I, J, x) 9 s 0 = some (s + 1) := op_fR h rfl
theorem fI_X9_1_g {s : Nat} {I : Nat → Nat → Int32} {J : Nat → Nat → Int64} {x : Nat} (h : ok_X9_g S s) : ab_fI (S, I, J, x) 9 s 1 = some (I s 1) := op_fI h rfl
theorem pI_X9_1_g {s : Nat} {I : Nat → Nat → Int32} {J : Nat → Nat → Int64} {x : Nat} (h : ok_X9_g S s) (v : Int32) : ab_pI (S, I, J, x) 9 s 1 v = some (S, ab_u I s 1 v, J, x) := op_pI v h rfl
end
abbrev ok_X10_g (S : List ab_Sh) (s : Nat) : Prop := S[s]? = some (0, 10, [none, none, some (some (s + 1)), none])
section
variable {S : List ab_Sh}
theorem rc_X10_g {s : Nat} {I : Nat → Nat → Int32} {J : Nat → Nat → Int64} {x : Nat} (h : ok_X10_g S s) : ab_rc (S, I, J, x) 10 s = some () := op_rc h
theorem fI_X10_0_g {s : Nat} {I : Nat → Nat → Int32} {J : Nat → Nat → Int64} {x : Nat} (h : ok_X10_g S s) : ab_fI (S, I, J, x) 10 s 0 = some (I s 0) := op_fI h rfl
theorem fI_X10_1_g {s : Nat} {I : Nat → Nat → Int32} {J : Nat → Nat → Int64} {x : Nat} (h : ok_X10_g S s) : ab_fI (S, I, J, x) 10 s 1 = some (I s 1) := op_fI h rfl
theorem fR_X10_2_g {s : Nat} {I : Nat → Nat → Int32} {J : Nat → Nat → Int64} {x : Nat} (h : ok_X10_g S s) : ab_fR (S, I, J, x) 10 s 2 = some (s + 1) := op_fR h rfl
theorem pI_X10_3_g {s : Nat} {I : Nat → Nat → Int32} {J : Nat → Nat → Int64} {x : Nat} (h : ok_X10_g S s) (v : Int32) : ab_pI (S, I, J, x) 10 s 3 v = some (S, ab_u I s 3 v, J, x) := op_pI v h rfl
end
def tb_g (S : List ab_Sh) (t R C : Nat) : Prop := ok_X10_g S t ∧ S[t + 1]? = some (1, R * C, []) ∧ R * C < 100000 ∧ 0 < C
section
variable {S : List ab_Sh}
theorem tb_C_g {t R C r : Nat} (h : tb_g S t R C) (hr : r < R) : C < 100000 := Nat.lt_of_le_of_lt (Nat.le_mul_of_pos_left C (by omega)) h.2.2.1
end
section
variable {S : List ab_Sh}
variable {t R C r c : Nat} {I : Nat → Nat → Int32} {J : Nat → Nat → Int64} {x : Nat} {row col : Int32}
theorem tb_set_g (v : Int32) (h : tb_g S t R C) (hI : tI I t R C) (hr : row = nI r) (hc : col = nI c) (h1 : r < R) (h2 : c < C) : dd_X10_set t row col v (S, I, J, x) = some ((), (S, ab_u I (t + 1) (r * C + c) v, J, x)) := by
  have hC := tb_C_g h h1
  have hlt := li_cell h1 h2
  have hz := h.2.2.1
  subst hr; subst hc
  unfold dd_X10_set
  simp only [fI_X10_1_g h.1, fR_X10_2_g h.1, ob_s, hI.2, li_mac]
  rw [if_neg (li_pos (by omega)), if_neg (by rw [li_le (by omega) (by omega)]; omega), if_neg (li_pos (by omega)), op_len h.2.1, ob_s, if_neg (by rw [li_le (by omega) (by omega)]; omega), op_st v h.2.1 rfl hlt (by omega)]
  rfl
theorem fi_fillL_g {a N : Nat} {v : Int32} (h : S[a]? = some (1, N, [])) (hN : N < 100000) : ∀ (n k : Nat) (I : Nat → Nat → Int32), k ≤ N → N - k < n → bb_J7_fill_53178_5 n a v (nI k) (nI N) (S, I, J, x) = some ((), (S, ro I a (fun b => if k ≤ b ∧ b < N then v else I a b), J, x)) := by
  intro n
  induction n with
  | zero => intro k I h1 h2; omega
  | succ n ih =>
    intro k I h1 h2
    rw [bb_J7_fill_53178_5]
    by_cases hk : N ≤ k
    · rw [if_pos (by rw [li_le (by omega) (by omega)]; exact hk)]
      have e : ro I a (fun b => if k ≤ b ∧ b < N then v else I a b) = I := by
        funext a' b
        by_cases ha : a' = a
        · subst ha
          have hb : ¬ (k ≤ b ∧ b < N) := by omega
          simp [ro, hb]
        · simp [ro, ha]
      rw [e]
    · rw [if_neg (by rw [li_le (by omega) (by omega)]; exact hk), op_st v h rfl (by omega) (by omega), ob_s]
      show bb_J7_fill_53178_5 n a v (nI k + 1) _ _ = _
      rw [nI_1, ih (k + 1) _ (by omega) (by omega)]
      have e : ro (ab_u I a k v) a (fun b => if k + 1 ≤ b ∧ b < N then v else ab_u I a k v a b) = ro I a (fun b => if k ≤ b ∧ b < N then v else I a b) := by
        rw [ab_u_ro, ro_ro, ro_at]
        congr 1
        funext b
        by_cases h3 : b = k
        · subst h3
          have h4 : ¬ (b + 1 ≤ b ∧ b < N) := by omega
          have h5 : b ≤ b ∧ b < N := by omega
          simp [h4, h5]
        · by_cases h4 : k + 1 ≤ b ∧ b < N
          · have h5 : k ≤ b ∧ b < N := by omega
            simp [h4, h5]
          · have h5 : ¬ (k ≤ b ∧ b < N) := by omega
            simp [h4, h5, h3]
      rw [e]
theorem fi_fill_g {a N : Nat} {v : Int32} (h : S[a]? = some (1, N, [])) (hN : N < 100000) : dd_J7_fill_53178 a v (S, I, J, x) = some ((), (S, ro I a (fun b => if b < N then v else I a b), J, x)) := by
  unfold dd_J7_fill_53178
  rw [op_len h, ob_s]
  show bb_J7_fill_53178_5 ab_fu a v (nI 0) (nI N) _ = _
  rw [fi_fillL_g h hN ab_fu 0 I (Nat.zero_le _) (ab_fu_big (by omega))]
  simp only [Nat.zero_le, true_and]
theorem tb_clear_g (h : tb_g S t R C) : dd_X10_clear t (S, I, J, x) = some ((), (S, ab_u (ro I (t + 1) (fun b => if b < R * C then 0 else I (t + 1) b)) t 3 0, J, x)) := by
  unfold dd_X10_clear
  rw [fR_X10_2_g h.1, ob_s, fi_fill_g h.2.1 h.2.2.1, ob_s, pI_X10_3_g h.1, ob_s]
end
section
variable {S : List ab_Sh}
variable {I I' I0 I1 I2 I3 I4 M M' M0 M1 M2 : Nat → Nat → Int32} {J J' J1 J2 J3 J4 : Nat → Nat → Int64} {x x' : Nat} {NH NY NE NR : Nat}
theorem tb_clearE_g {t R C : Nat} (h : tb_g S t R C) : ∃ I', dd_X10_clear t (S, I, J, x) = some ((), (S, I', J, x)) ∧ (∀ r, r ≠ t → r ≠ t + 1 → I' r = I r) ∧ (∀ b, b < R * C → I' (t + 1) b = 0) ∧ I' t 3 = 0 ∧ ∀ k, k ≠ 3 → I' t k = I t k := by
  refine ⟨_, tb_clear_g h, fun r a b => ?_, fun b hb => ?_, u_e, fun k hk => ?_⟩
  · rw [u_r a, ro_off _ _ b]
  · rw [u_r (by omega), ro_at, if_pos hb]
  · rw [u_k hk, ro_off _ _ (by omega)]
end
