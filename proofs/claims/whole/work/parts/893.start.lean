/-! ===== parse: both readers begin ===== -/
section PB
variable {I I' I0 I1 I2 I3 I4 M M' M0 M1 M2 Z : Nat → Nat → Int32} {J J' J1 J2 J3 J4 : Nat → Nat → Int64} {x x' : Nat} {NH NY NE NR N : Nat} {f g : Nat → Int64} {T : Nat → Int32}
/-- an empty draft of the class -/
def dr0 (I : Nat → Nat → Int32) : Prop := clI I 4 ∧ (I 5 3 = 0 ∧ I 7 3 = 0 ∧ I 9 3 = 0 ∧ I 11 3 = 0 ∧ I 13 3 = 0) ∧ (∀ b, b < 16 → I 6 b = 0) ∧ (I 14 0 = 20 ∧ I 14 1 = 2 ∧ I 14 2 = 100) ∧ I 15 1 = nI 1 ∧ I 16 0 = -2
theorem c_draft0 (hC : clI I 4) : ∃ I', dd_X1_reset 4 (S0, I, J, x) = some ((), (S0, I', J, x)) ∧ (∀ r, r < 5 ∨ 17 ≤ r → I' r = I r) ∧ dr0 I' := by
  have t12 : tb 13 1 3 := ⟨rfl, rfl, by decide, by decide⟩
  obtain ⟨I1, a1, a2, a3, a4, a5⟩ := tb_clearE (I := I) (J := J) (x := x) tbH
  obtain ⟨I2, b1, b2, b3, b4, b5⟩ := tb_clearE (I := I1) (J := J) (x := x) tbY
  obtain ⟨I3, c1, c2, c3, c4, c5⟩ := tb_clearE (I := I2) (J := J) (x := x) tbE
  obtain ⟨I4, d1, d2, d3, d4, d5⟩ := tb_clearE (I := I3) (J := J) (x := x) tbRv
  obtain ⟨I5, e1, e2, e3, e4, e5⟩ := tb_clearE (I := I4) (J := J) (x := x) t12
  have g0 : ∀ (Ia : Nat → Nat → Int32), ab_fR (S0, Ia, J, x) 1 4 0 = some 5 := fun _ => op_fR (fs := [some (some 5), some (some 7), some (some 9), some (some 11), some (some 13), some (some 15)]) rfl rfl
  have g1 : ∀ (Ia : Nat → Nat → Int32), ab_fR (S0, Ia, J, x) 1 4 1 = some 7 := fun _ => op_fR (fs := [some (some 5), some (some 7), some (some 9), some (some 11), some (some 13), some (some 15)]) rfl rfl
  have g2 : ∀ (Ia : Nat → Nat → Int32), ab_fR (S0, Ia, J, x) 1 4 2 = some 9 := fun _ => op_fR (fs := [some (some 5), some (some 7), some (some 9), some (some 11), some (some 13), some (some 15)]) rfl rfl
  have g3 : ∀ (Ia : Nat → Nat → Int32), ab_fR (S0, Ia, J, x) 1 4 3 = some 11 := fun _ => op_fR (fs := [some (some 5), some (some 7), some (some 9), some (some 11), some (some 13), some (some 15)]) rfl rfl
  have g4 : ∀ (Ia : Nat → Nat → Int32), ab_fR (S0, Ia, J, x) 1 4 4 = some 13 := fun _ => op_fR (fs := [some (some 5), some (some 7), some (some 9), some (some 11), some (some 13), some (some 15)]) rfl rfl
  have hC5 : clI I5 4 := by
    unfold clI tI at hC ⊢
    refine ⟨⟨?_, ?_⟩, ⟨?_, ?_⟩, ⟨?_, ?_⟩, ⟨?_, ?_⟩, ⟨?_, ?_⟩⟩
    · rw [e2 (4 + 1) (by omega) (by omega), d2 (4 + 1) (by omega) (by omega), c2 (4 + 1) (by omega) (by omega), b2 (4 + 1) (by omega) (by omega), a5 0 (by omega)]; exact hC.1.1
    · rw [e2 (4 + 1) (by omega) (by omega), d2 (4 + 1) (by omega) (by omega), c2 (4 + 1) (by omega) (by omega), b2 (4 + 1) (by omega) (by omega), a5 1 (by omega)]; exact hC.1.2
    · rw [e2 (4 + 3) (by omega) (by omega), d2 (4 + 3) (by omega) (by omega), c2 (4 + 3) (by omega) (by omega), b5 0 (by omega), a2 7 (by omega) (by omega)]; exact hC.2.1.1
    · rw [e2 (4 + 3) (by omega) (by omega), d2 (4 + 3) (by omega) (by omega), c2 (4 + 3) (by omega) (by omega), b5 1 (by omega), a2 7 (by omega) (by omega)]; exact hC.2.1.2
    · rw [e2 (4 + 5) (by omega) (by omega), d2 (4 + 5) (by omega) (by omega), c5 0 (by omega), b2 9 (by omega) (by omega), a2 9 (by omega) (by omega)]; exact hC.2.2.1.1
    · rw [e2 (4 + 5) (by omega) (by omega), d2 (4 + 5) (by omega) (by omega), c5 1 (by omega), b2 9 (by omega) (by omega), a2 9 (by omega) (by omega)]; exact hC.2.2.1.2
    · rw [e2 (4 + 7) (by omega) (by omega), d5 0 (by omega), c2 11 (by omega) (by omega), b2 11 (by omega) (by omega), a2 11 (by omega) (by omega)]; exact hC.2.2.2.1.1
    · rw [e2 (4 + 7) (by omega) (by omega), d5 1 (by omega), c2 11 (by omega) (by omega), b2 11 (by omega) (by omega), a2 11 (by omega) (by omega)]; exact hC.2.2.2.1.2
    · rw [e5 0 (by omega), d2 13 (by omega) (by omega), c2 13 (by omega) (by omega), b2 13 (by omega) (by omega), a2 13 (by omega) (by omega)]; exact hC.2.2.2.2.1
    · rw [e5 1 (by omega), d2 13 (by omega) (by omega), c2 13 (by omega) (by omega), b2 13 (by omega) (by omega), a2 13 (by omega) (by omega)]; exact hC.2.2.2.2.2
  have tI5 : ∀ (Ia : Nat → Nat → Int32), Ia 13 = I5 13 → tI Ia 13 1 3 := fun Ia h => by
    have q := hC5.2.2.2.2
    unfold tI at q ⊢
    rw [h]; exact q
  have s1 : dd_X10_set 13 0 0 20 (S0, I5, J, x) = some ((), (S0, ab_u I5 14 0 20, J, x)) := tb_set (t := 13) (r := 0) (c := 0) 20 t12 (tI5 I5 rfl) li_0 li_0 (by omega) (by omega)
  have s2 : dd_X10_set 13 0 1 2 (S0, ab_u I5 14 0 20, J, x) = some ((), (S0, ab_u (ab_u I5 14 0 20) 14 1 2, J, x)) := tb_set (t := 13) (r := 0) (c := 1) 2 t12 (tI5 _ (u_r (by omega))) li_0 (li_n 1) (by omega) (by omega)
  have s3 : dd_X10_set 13 0 2 100 (S0, ab_u (ab_u I5 14 0 20) 14 1 2, J, x) = some ((), (S0, ab_u (ab_u (ab_u I5 14 0 20) 14 1 2) 14 2 100, J, x)) := tb_set (t := 13) (r := 0) (c := 2) 100 t12 (tI5 _ (by rw [u_r (by omega), u_r (by omega)])) li_0 (li_n 2) (by omega) (by omega)
  have s4 : dd_X9_clear 15 (S0, ab_u (ab_u (ab_u I5 14 0 20) 14 1 2) 14 2 100, J, x) = some ((), (S0, ab_u (ab_u (ab_u (ab_u I5 14 0 20) 14 1 2) 14 2 100) 15 1 0, J, x)) := by
    unfold dd_X9_clear
    rw [pI_X9_1 okS14, ob_s]
  have s5 := c_add (I := ab_u (ab_u (ab_u (ab_u I5 14 0 20) 14 1 2) 14 2 100) 15 1 0) (J := J) (x := x) (n := 0) (-2) u_e (by omega)
  refine ⟨ab_u (ab_u (ab_u (ab_u (ab_u (ab_u I5 14 0 20) 14 1 2) 14 2 100) 15 1 0) 16 0 (-2)) 15 1 (nI (0 + 1)), ?_, fun r hr => ?_, ?_, ⟨?_, ?_, ?_, ?_, ?_⟩, fun b hb => ?_, ⟨?_, ?_, ?_⟩, ?_, ?_⟩
  · unfold dd_X1_reset
    rw [g0, ob_s, rc_X10 tbH.1, ob_s, a1, ob_s, g1, ob_s, rc_X10 tbY.1, ob_s, b1, ob_s, g2, ob_s, rc_X10 tbE.1, ob_s, c1, ob_s, g3, ob_s, rc_X10 tbRv.1, ob_s, d1, ob_s, g4, ob_s, rc_X10 t12.1, ob_s, e1, ob_s, g4, ob_s, rc_X10 t12.1, ob_s, s1, ob_s, g4, ob_s, rc_X10 t12.1, ob_s, s2, ob_s, g4, ob_s, rc_X10 t12.1, ob_s, s3, ob_s, d3_s5, ob_s, rc_X9 okS14, ob_s, s4, ob_s, d3_s5, ob_s, rc_X9 okS14, ob_s, s5, ob_s]
  · rw [u_r (by omega), u_r (by omega), u_r (by omega), u_r (by omega), u_r (by omega), u_r (by omega), e2 r (by omega) (by omega), d2 r (by omega) (by omega), c2 r (by omega) (by omega), b2 r (by omega) (by omega), a2 r (by omega) (by omega)]
  · unfold clI tI at hC5 ⊢
    rw [u_r (by omega), u_r (by omega), u_r (by omega), u_r (by omega), u_r (by omega), u_r (by omega), u_r (by omega), u_r (by omega), u_r (by omega), u_r (by omega), u_r (by omega), u_r (by omega), u_r (by omega), u_r (by omega), u_r (by omega), u_r (by omega), u_r (by omega), u_r (by omega), u_r (by omega), u_r (by omega), u_r (by omega), u_r (by omega), u_r (by omega), u_r (by omega), u_r (by omega), u_r (by omega), u_r (by omega), u_r (by omega), u_r (by omega), u_r (by omega)]
    exact hC5
  · rw [u_r (by omega), u_r (by omega), u_r (by omega), u_r (by omega), u_r (by omega), u_r (by omega), e2 5 (by omega) (by omega), d2 5 (by omega) (by omega), c2 5 (by omega) (by omega), b2 5 (by omega) (by omega)]; exact a4
  · rw [u_r (by omega), u_r (by omega), u_r (by omega), u_r (by omega), u_r (by omega), u_r (by omega), e2 7 (by omega) (by omega), d2 7 (by omega) (by omega), c2 7 (by omega) (by omega)]; exact b4
  · rw [u_r (by omega), u_r (by omega), u_r (by omega), u_r (by omega), u_r (by omega), u_r (by omega), e2 9 (by omega) (by omega), d2 9 (by omega) (by omega)]; exact c4
  · rw [u_r (by omega), u_r (by omega), u_r (by omega), u_r (by omega), u_r (by omega), u_r (by omega), e2 11 (by omega) (by omega)]; exact d4
  · rw [u_r (by omega), u_r (by omega), u_r (by omega), u_r (by omega), u_r (by omega), u_r (by omega)]; exact e4
  · rw [u_r (by omega), u_r (by omega), u_r (by omega), u_r (by omega), u_r (by omega), u_r (by omega), e2 6 (by omega) (by omega), d2 6 (by omega) (by omega), c2 6 (by omega) (by omega), b2 6 (by omega) (by omega)]; exact a3 b (by omega)
  · rw [u_r (by omega), u_r (by omega), u_r (by omega), u_k (by omega), u_k (by omega), u_e]
  · rw [u_r (by omega), u_r (by omega), u_r (by omega), u_k (by omega), u_e]
  · rw [u_r (by omega), u_r (by omega), u_r (by omega), u_e]
  · rw [u_e]
  · rw [u_r (by omega), u_e]
/-- an empty draft of the reference -/
def dm0 (M : Nat → Nat → Int32) : Prop := (M 202 7 = 0 ∧ M 202 8 = 0 ∧ M 202 9 = 0 ∧ M 202 10 = 0) ∧ (M 202 11 = 20 ∧ M 202 12 = 2 ∧ M 202 13 = 100) ∧ M 207 1 = nI 1 ∧ M 208 820 = 2
theorem m_clear0 : ∃ M', dd_X12_clearDraft 200 (S0, M, J, x) = some ((), (S0, M', J, x)) ∧ (∀ r, r ≠ 202 → r ≠ 207 → r ≠ 208 → M' r = M r) ∧ (∀ k, k < 7 → M' 202 k = M 202 k) ∧ M' 207 0 = M 207 0 ∧ (∀ k, k ≠ 820 → M' 208 k = M 208 k) ∧ dm0 M' := by
  have e70 : (7 : Int32) + 0 = nI (7 + 0) := by decide
  have e71 : (7 : Int32) + 1 = nI (7 + 1) := by decide
  have loop : ∀ (q fu k : Nat) (M1 : Nat → Nat → Int32), k + q = 4 → q < fu → (∀ r, r ≠ 202 → M1 r = M r) → (∀ j, j < 7 → M1 202 j = M 202 j) → (∀ j, j < k → M1 202 (7 + j) = 0) → ∃ M2 fu', bb_X12_clearDraft_2 fu 200 (nI k) (S0, M1, J, x) = bb_X12_clearDraft_2 (fu' + 1) 200 (nI 4) (S0, M2, J, x) ∧ (∀ r, r ≠ 202 → M2 r = M r) ∧ (∀ j, j < 7 → M2 202 j = M 202 j) ∧ (∀ j, j < 4 → M2 202 (7 + j) = 0) := by
    intro q
    induction q with
    | zero =>
      intro fu k M1 e1 e2 e3 e4 e5
      obtain ⟨fu, rfl⟩ : ∃ z, fu = z + 1 := ⟨fu - 1, by omega⟩
      have ek : k = 4 := by omega
      subst ek
      exact ⟨M1, fu, rfl, e3, e4, e5⟩
    | succ q ih =>
      intro fu k M1 e1 e2 e3 e4 e5
      obtain ⟨fu, rfl⟩ : ∃ z, fu = z + 1 := ⟨fu - 1, by omega⟩
      have e7 : (7 : Int32) + nI k = nI (7 + k) := by
        show nI 7 + nI k = _
        rw [li_add]
      have go : bb_X12_clearDraft_2 (fu + 1) 200 (nI k) (S0, M1, J, x) = bb_X12_clearDraft_2 fu 200 (nI (k + 1)) (S0, ab_u M1 202 (7 + k) 0, J, x) := by
        rw [bb_X12_clearDraft_2, if_neg (by rw [li_n 4, li_le (by omega) (by omega)]; omega), m_R2, ob_s, e7, op_st _ sh_200 rfl (by omega) (by omega), ob_s, nI_1]
      rw [go]
      refine ih fu (k + 1) _ (by omega) (by omega) (fun r hr => by rw [u_r hr]; exact e3 r hr) (fun j hj => by rw [u_k (by omega)]; exact e4 j hj) (fun j hj => ?_)
      by_cases e : j = k
      · rw [e, u_e]
      · rw [u_k (by omega)]; exact e5 j (by omega)
  obtain ⟨M2, fu', a1, a2, a3, a4⟩ := loop 4 ab_fu 0 M (by omega) (ab_fu_big (by omega)) (fun _ _ => rfl) (fun _ _ => rfl) (fun j hj => by omega)
  have em := m_emit (M := ab_u (ab_u (ab_u (ab_u M2 202 11 20) 202 12 2) 202 13 100) 207 1 0) (J := J) (x := x) (n := 0) 2 u_e (by omega)
  refine ⟨ab_u (ab_u (ab_u (ab_u (ab_u (ab_u M2 202 11 20) 202 12 2) 202 13 100) 207 1 0) 208 (820 + 0) 2) 207 1 (nI (0 + 1)), ?_, fun r p1 p2 p3 => ?_, fun k hk => ?_, ?_, fun k hk => ?_, ⟨?_, ?_, ?_, ?_⟩, ⟨?_, ?_, ?_⟩, ?_, ?_⟩
  · refine a1.trans ?_
    rw [bb_X12_clearDraft_2, if_pos (by decide), m_R2, ob_s, op_st _ sh_200 (li_n 11) (by omega) (by omega), ob_s, m_R2, ob_s, op_st _ sh_200 (li_n 12) (by omega) (by omega), ob_s, m_R2, ob_s, op_st _ sh_200 (li_n 13) (by omega) (by omega), ob_s, m_R7, ob_s, op_st _ sh_205 (li_n 1) (by omega) (by omega), ob_s, m_rc, ob_s, em, ob_s]
  · rw [u_r p2, u_r p3, u_r p2, u_r p1, u_r p1, u_r p1, a2 r p1]
  · rw [u_r (by omega), u_r (by omega), u_r (by omega), u_k (by omega), u_k (by omega), u_k (by omega)]; exact a3 k hk
  · rw [u_k (by omega), u_r (by omega), u_k (by omega), u_r (by omega), u_r (by omega), u_r (by omega), a2 207 (by omega)]
  · rw [u_r (by omega), u_k (by omega), u_r (by omega), u_r (by omega), u_r (by omega), u_r (by omega), a2 208 (by omega)]
  · rw [u_r (by omega), u_r (by omega), u_r (by omega), u_k (by omega), u_k (by omega), u_k (by omega)]; exact a4 0 (by omega)
  · rw [u_r (by omega), u_r (by omega), u_r (by omega), u_k (by omega), u_k (by omega), u_k (by omega)]; exact a4 1 (by omega)
  · rw [u_r (by omega), u_r (by omega), u_r (by omega), u_k (by omega), u_k (by omega), u_k (by omega)]; exact a4 2 (by omega)
  · rw [u_r (by omega), u_r (by omega), u_r (by omega), u_k (by omega), u_k (by omega), u_k (by omega)]; exact a4 3 (by omega)
  · rw [u_r (by omega), u_r (by omega), u_r (by omega), u_k (by omega), u_k (by omega), u_e]
  · rw [u_r (by omega), u_r (by omega), u_r (by omega), u_k (by omega), u_e]
  · rw [u_r (by omega), u_r (by omega), u_r (by omega), u_e]
  · rw [u_e]
  · rw [u_r (by omega), u_e]
/-- the empty drafts belong together -/
theorem DRF_0 (h : dr0 I) (hm : dm0 M) (s1 : I 1 10 = 0) (s2 : M 200 19 = 0) : DRF I M := by
  obtain ⟨h1, ⟨h2, h3, h4, h5, h6⟩, h7, ⟨h8, h9, h10⟩, h11, h12⟩ := h
  obtain ⟨⟨m1, m2, m3, m4⟩, ⟨m5, m6, m7⟩, m8, m9⟩ := hm
  refine ⟨0, 0, 0, 0, 0, ⟨by omega, h2, m1, fun h hh => by omega, fun h _ hh => h7 _ (by omega)⟩, ⟨by omega, h3, m2, fun h hh => by omega⟩, ⟨by omega, h4, m3, fun h hh => by omega⟩, ⟨by omega, h5, m4, fun h hh => by omega⟩, ⟨h6, by rw [h8, m5], by rw [h9, m6], by rw [h10, m7], ?_, ?_, ?_⟩, ⟨1, by omega, h11, m8, fun k hk => ?_, ?_⟩, by omega, s1, s2⟩
  · rw [m5]; exact ⟨20, rfl, by omega, by omega⟩
  · rw [m6]; exact ⟨2, rfl, by omega, by omega⟩
  · rw [m7]; exact ⟨100, rfl, by omega, by omega⟩
  · have ek : k = 0 := by omega
    rw [ek, h12]
    show cdp (-2) (M 208 820) ∧ (0 < M 208 820 → 0 < 13) ∧ (¬ 0 < M 208 820 → 2 ≤ 0)
    rw [m9]
    exact ⟨Or.inr (Or.inr (Or.inl ⟨rfl, rfl⟩)), fun _ => by omega, fun z => absurd (by decide) z⟩
  · show (if 0 < M 208 820 then 0 + 1 else 0 - 1) = 1
    rw [m9, if_pos (by decide)]
end PB
