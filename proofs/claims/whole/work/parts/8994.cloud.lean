/-! ===== constructors: a cloud, a reader ===== -/
section CC
variable {S P L : List ab_Sh} {s t n c : Nat} {I I' : Nat → Nat → Int32} {J J' : Nat → Nat → Int64} {x : Nat}
/-- an empty cloud -/
def F1 (c : Nat) (I : Nat → Nat → Int32) : Prop := clI I c ∧ (I (c + 1) 3 = 0 ∧ I (c + 3) 3 = 0 ∧ I (c + 5) 3 = 0 ∧ I (c + 7) 3 = 0 ∧ I (c + 9) 3 = 0) ∧ (∀ b, b < 16 → I (c + 2) b = 0) ∧ (I (c + 10) 0 = 20 ∧ I (c + 10) 1 = 2 ∧ I (c + 10) 2 = 100) ∧ I (c + 11) 1 = nI 1 ∧ I (c + 12) 0 = -2
/-- the shapes of a cloud -/
def clS (S : List ab_Sh) (c : Nat) : Prop := S[c]? = some (0, 1, [some (some (c + 1)), some (some (c + 3)), some (some (c + 5)), some (some (c + 7)), some (some (c + 9)), some (some (c + 11))]) ∧ tb_g S (c + 1) 8 2 ∧ tb_g S (c + 3) 6 3 ∧ tb_g S (c + 5) 6 1 ∧ tb_g S (c + 7) 8 6 ∧ tb_g S (c + 9) 1 3 ∧ ok_X9_g S (c + 11) ∧ S[c + 12]? = some (1, 800, [])
theorem c_resetG (h : clS S c) (hC : clI I c) : ∃ I', dd_X1_reset c (S, I, J, x) = some ((), (S, I', J, x)) ∧ (∀ r, r < c + 1 ∨ c + 13 ≤ r → I' r = I r) ∧ F1 c I' := by
  obtain ⟨h0, tH, tY, tE, tR, t9, k11, s12⟩ := h
  obtain ⟨I1, a1, a2, a3, a4, a5⟩ := tb_clearE_g (I := I) (J := J) (x := x) tH
  obtain ⟨I2, b1, b2, b3, b4, b5⟩ := tb_clearE_g (I := I1) (J := J) (x := x) tY
  obtain ⟨I3, c1, c2, c3, c4, c5⟩ := tb_clearE_g (I := I2) (J := J) (x := x) tE
  obtain ⟨I4, d1, d2, d3, d4, d5⟩ := tb_clearE_g (I := I3) (J := J) (x := x) tR
  obtain ⟨I5, e1, e2, e3, e4, e5⟩ := tb_clearE_g (I := I4) (J := J) (x := x) t9
  have g0 : ∀ (Ia : Nat → Nat → Int32), ab_fR (S, Ia, J, x) 1 c 0 = some (c + 1) := fun _ => op_fR h0 rfl
  have g1 : ∀ (Ia : Nat → Nat → Int32), ab_fR (S, Ia, J, x) 1 c 1 = some (c + 3) := fun _ => op_fR h0 rfl
  have g2 : ∀ (Ia : Nat → Nat → Int32), ab_fR (S, Ia, J, x) 1 c 2 = some (c + 5) := fun _ => op_fR h0 rfl
  have g3 : ∀ (Ia : Nat → Nat → Int32), ab_fR (S, Ia, J, x) 1 c 3 = some (c + 7) := fun _ => op_fR h0 rfl
  have g4 : ∀ (Ia : Nat → Nat → Int32), ab_fR (S, Ia, J, x) 1 c 4 = some (c + 9) := fun _ => op_fR h0 rfl
  have g5 : ∀ (Ia : Nat → Nat → Int32), ab_fR (S, Ia, J, x) 1 c 5 = some (c + 11) := fun _ => op_fR h0 rfl
  have hC5 : clI I5 c := by
    unfold clI tI at hC ⊢
    refine ⟨⟨?_, ?_⟩, ⟨?_, ?_⟩, ⟨?_, ?_⟩, ⟨?_, ?_⟩, ⟨?_, ?_⟩⟩
    · rw [e2 (c + 1) (by omega) (by omega), d2 (c + 1) (by omega) (by omega), c2 (c + 1) (by omega) (by omega), b2 (c + 1) (by omega) (by omega), a5 0 (by omega)]; exact hC.1.1
    · rw [e2 (c + 1) (by omega) (by omega), d2 (c + 1) (by omega) (by omega), c2 (c + 1) (by omega) (by omega), b2 (c + 1) (by omega) (by omega), a5 1 (by omega)]; exact hC.1.2
    · rw [e2 (c + 3) (by omega) (by omega), d2 (c + 3) (by omega) (by omega), c2 (c + 3) (by omega) (by omega), b5 0 (by omega), a2 (c + 3) (by omega) (by omega)]; exact hC.2.1.1
    · rw [e2 (c + 3) (by omega) (by omega), d2 (c + 3) (by omega) (by omega), c2 (c + 3) (by omega) (by omega), b5 1 (by omega), a2 (c + 3) (by omega) (by omega)]; exact hC.2.1.2
    · rw [e2 (c + 5) (by omega) (by omega), d2 (c + 5) (by omega) (by omega), c5 0 (by omega), b2 (c + 5) (by omega) (by omega), a2 (c + 5) (by omega) (by omega)]; exact hC.2.2.1.1
    · rw [e2 (c + 5) (by omega) (by omega), d2 (c + 5) (by omega) (by omega), c5 1 (by omega), b2 (c + 5) (by omega) (by omega), a2 (c + 5) (by omega) (by omega)]; exact hC.2.2.1.2
    · rw [e2 (c + 7) (by omega) (by omega), d5 0 (by omega), c2 (c + 7) (by omega) (by omega), b2 (c + 7) (by omega) (by omega), a2 (c + 7) (by omega) (by omega)]; exact hC.2.2.2.1.1
    · rw [e2 (c + 7) (by omega) (by omega), d5 1 (by omega), c2 (c + 7) (by omega) (by omega), b2 (c + 7) (by omega) (by omega), a2 (c + 7) (by omega) (by omega)]; exact hC.2.2.2.1.2
    · rw [e5 0 (by omega), d2 (c + 9) (by omega) (by omega), c2 (c + 9) (by omega) (by omega), b2 (c + 9) (by omega) (by omega), a2 (c + 9) (by omega) (by omega)]; exact hC.2.2.2.2.1
    · rw [e5 1 (by omega), d2 (c + 9) (by omega) (by omega), c2 (c + 9) (by omega) (by omega), b2 (c + 9) (by omega) (by omega), a2 (c + 9) (by omega) (by omega)]; exact hC.2.2.2.2.2
  have tI5 : ∀ (Ia : Nat → Nat → Int32), Ia (c + 9) = I5 (c + 9) → tI Ia (c + 9) 1 3 := fun Ia h => by
    have q := hC5.2.2.2.2
    unfold tI at q ⊢
    rw [h]; exact q
  have s1 : dd_X10_set (c + 9) 0 0 20 (S, I5, J, x) = some ((), (S, ab_u I5 (c + 10) 0 20, J, x)) := tb_set_g (t := c + 9) (r := 0) (c := 0) 20 t9 (tI5 I5 rfl) li_0 li_0 (by omega) (by omega)
  have s2 : dd_X10_set (c + 9) 0 1 2 (S, ab_u I5 (c + 10) 0 20, J, x) = some ((), (S, ab_u (ab_u I5 (c + 10) 0 20) (c + 10) 1 2, J, x)) := tb_set_g (t := c + 9) (r := 0) (c := 1) 2 t9 (tI5 _ (u_r (by omega))) li_0 (li_n 1) (by omega) (by omega)
  have s3 : dd_X10_set (c + 9) 0 2 100 (S, ab_u (ab_u I5 (c + 10) 0 20) (c + 10) 1 2, J, x) = some ((), (S, ab_u (ab_u (ab_u I5 (c + 10) 0 20) (c + 10) 1 2) (c + 10) 2 100, J, x)) := tb_set_g (t := c + 9) (r := 0) (c := 2) 100 t9 (tI5 _ (by rw [u_r (by omega), u_r (by omega)])) li_0 (li_n 2) (by omega) (by omega)
  have z0 : ab_u (ab_u (ab_u I5 (c + 10) 0 20) (c + 10) 1 2) (c + 10) 2 100 (c + 10) 0 = 20 := by rw [u_k (by omega), u_k (by omega), u_e]
  have z1 : ab_u (ab_u (ab_u I5 (c + 10) 0 20) (c + 10) 1 2) (c + 10) 2 100 (c + 10) 1 = 2 := by rw [u_k (by omega), u_e]
  have z2 : ab_u (ab_u (ab_u I5 (c + 10) 0 20) (c + 10) 1 2) (c + 10) 2 100 (c + 10) 2 = 100 := u_e
  have zr : ∀ r, r ≠ c + 10 → ab_u (ab_u (ab_u I5 (c + 10) 0 20) (c + 10) 1 2) (c + 10) 2 100 r = I5 r := fun r hr => by rw [u_r hr, u_r hr, u_r hr]
  generalize ab_u (ab_u (ab_u I5 (c + 10) 0 20) (c + 10) 1 2) (c + 10) 2 100 = I6 at z0 z1 z2 zr s3
  have s4 : dd_X9_clear (c + 11) (S, I6, J, x) = some ((), (S, ab_u I6 (c + 11) 1 0, J, x)) := by
    unfold dd_X9_clear
    rw [pI_X9_1_g k11, ob_s]
  have s5 : dd_X9_add (c + 11) (-2) (S, ab_u I6 (c + 11) 1 0, J, x) = some ((), (S, ab_u (ab_u (ab_u I6 (c + 11) 1 0) (c + 12) 0 (-2)) (c + 11) 1 (nI 1), J, x)) := by
    have e0 : ab_u I6 (c + 11) 1 0 (c + 11) 1 = nI 0 := u_e
    have e0' : ab_u (ab_u I6 (c + 11) 1 0) (c + 12) 0 (-2) (c + 11) 1 = nI 0 := by rw [u_r (by omega)]; exact u_e
    have f0 : ∀ (Ia : Nat → Nat → Int32), ab_fR (S, Ia, J, x) 9 (c + 11) 0 = some (c + 12) := fun _ => fR_X9_0_g k11
    unfold dd_X9_add
    rw [fI_X9_1_g k11, ob_s, e0, if_neg (li_pos (by omega)), ob_s, f0, ob_s, op_len s12, ob_s, if_neg (by rw [li_le (by omega) (by omega)]; omega), ob_s, ob_s, op_st _ s12 rfl (by omega) (by omega), ob_s, fI_X9_1_g k11, ob_s, e0', nI_1, pI_X9_1_g k11, ob_s]
    rfl
  refine ⟨ab_u (ab_u (ab_u I6 (c + 11) 1 0) (c + 12) 0 (-2)) (c + 11) 1 (nI 1), ?_, fun r hr => ?_, ?_, ⟨?_, ?_, ?_, ?_, ?_⟩, fun b hb => ?_, ⟨?_, ?_, ?_⟩, ?_, ?_⟩
  · unfold dd_X1_reset
    rw [g0, ob_s, rc_X10_g tH.1, ob_s, a1, ob_s, g1, ob_s, rc_X10_g tY.1, ob_s, b1, ob_s, g2, ob_s, rc_X10_g tE.1, ob_s, c1, ob_s, g3, ob_s, rc_X10_g tR.1, ob_s, d1, ob_s, g4, ob_s, rc_X10_g t9.1, ob_s, e1, ob_s, g4, ob_s, rc_X10_g t9.1, ob_s, s1, ob_s, g4, ob_s, rc_X10_g t9.1, ob_s, s2, ob_s, g4, ob_s, rc_X10_g t9.1, ob_s, s3, ob_s, g5, ob_s, rc_X9_g k11, ob_s, s4, ob_s, g5, ob_s, rc_X9_g k11, ob_s, s5, ob_s]
  · rw [u_r (by omega), u_r (by omega), u_r (by omega), zr r (by omega), e2 r (by omega) (by omega), d2 r (by omega) (by omega), c2 r (by omega) (by omega), b2 r (by omega) (by omega), a2 r (by omega) (by omega)]
  · have y : ∀ r, r < c + 10 → ab_u (ab_u (ab_u I6 (c + 11) 1 0) (c + 12) 0 (-2)) (c + 11) 1 (nI 1) r = I5 r := fun r hr => by rw [u_r (by omega), u_r (by omega), u_r (by omega), zr r (by omega)]
    unfold clI tI at hC5 ⊢
    rw [y (c + 1) (by omega), y (c + 3) (by omega), y (c + 5) (by omega), y (c + 7) (by omega), y (c + 9) (by omega)]
    exact hC5
  · rw [u_r (by omega), u_r (by omega), u_r (by omega), zr _ (by omega), e2 _ (by omega) (by omega), d2 _ (by omega) (by omega), c2 _ (by omega) (by omega), b2 _ (by omega) (by omega)]; exact a4
  · rw [u_r (by omega), u_r (by omega), u_r (by omega), zr _ (by omega), e2 _ (by omega) (by omega), d2 _ (by omega) (by omega), c2 _ (by omega) (by omega)]; exact b4
  · rw [u_r (by omega), u_r (by omega), u_r (by omega), zr _ (by omega), e2 _ (by omega) (by omega), d2 _ (by omega) (by omega)]; exact c4
  · rw [u_r (by omega), u_r (by omega), u_r (by omega), zr _ (by omega), e2 _ (by omega) (by omega)]; exact d4
  · rw [u_r (by omega), u_r (by omega), u_r (by omega), zr _ (by omega)]; exact e4
  · rw [u_r (by omega), u_r (by omega), u_r (by omega), zr _ (by omega), e2 _ (by omega) (by omega), d2 _ (by omega) (by omega), c2 _ (by omega) (by omega), b2 _ (by omega) (by omega)]; exact a3 b (by omega)
  · rw [u_r (by omega), u_r (by omega), u_r (by omega)]; exact z0
  · rw [u_r (by omega), u_r (by omega), u_r (by omega)]; exact z1
  · rw [u_r (by omega), u_r (by omega), u_r (by omega)]; exact z2
  · rw [u_e]
  · rw [u_r (by omega), u_e]
/-- a sum -/
def SUM (s : Nat) : List ab_Sh := [(0, 9, [some (some (s + 1)), none, some (some (s + 2))]), (1, 800, []), (1, 16, [])]
theorem Ini_9 : Ini dd_X9_init (0, 9, [some none, none, some none]) SUM 3 (fun _ _ _ => True) := by
  intro P s I J hs h9
  have a1 := fun G => n_arr (I := I) (J := J) (L := []) (t := s + 1) (ci := 9) (k := 0) (kd := 1) (fs := [some none, none, some none]) hs rfl (by omega) (li_n 800) (by omega) rfl G
  have a2 : ab_pI (P ++ (0, 9, [some (some (s + 1)), none, some none]) :: [(1, 800, [])], ab_i0 I (s + 1), ab_j0 J (s + 1), 0) 9 s 1 0 = some (P ++ (0, 9, [some (some (s + 1)), none, some none]) :: [(1, 800, [])], ab_u (ab_i0 I (s + 1)) s 1 0, ab_j0 J (s + 1), 0) := n_own hs 0 rfl
  have a3 := fun G => n_arr (I := ab_u (ab_i0 I (s + 1)) s 1 0) (J := ab_j0 J (s + 1)) (L := [(1, 800, [])]) (t := s + 2) (ci := 9) (k := 2) (kd := 1) (fs := [some (some (s + 1)), none, some none]) hs rfl (by omega) (li_n 16) (by omega) rfl G
  refine ⟨ab_i0 (ab_u (ab_i0 I (s + 1)) s 1 0) (s + 2), ab_j0 (ab_j0 J (s + 1)) (s + 2), ?_, fun r hr => ?_, fun r hr => ?_, trivial⟩
  · unfold dd_X9_init
    refine (a1 _).trans ?_
    show (ab_pI (P ++ (0, 9, [some (some (s + 1)), none, some none]) :: [(1, 800, [])], ab_i0 I (s + 1), ab_j0 J (s + 1), 0) 9 s 1 0).bind _ = _
    rw [a2, ob_s]
    exact a3 _
  · rw [ab_i0_off _ (by omega), u_r (by omega), ab_i0_off _ (by omega)]
  · rw [ab_j0_off _ (by omega), ab_j0_off _ (by omega)]
/-- a cloud -/
def CLD (c : Nat) : List ab_Sh := [(0, 1, [some (some (c + 1)), some (some (c + 3)), some (some (c + 5)), some (some (c + 7)), some (some (c + 9)), some (some (c + 11))]), (0, 10, [none, none, some (some (c + 2)), none]), (1, 16, []), (0, 10, [none, none, some (some (c + 4)), none]), (1, 18, []), (0, 10, [none, none, some (some (c + 6)), none]), (1, 6, []), (0, 10, [none, none, some (some (c + 8)), none]), (1, 48, []), (0, 10, [none, none, some (some (c + 10)), none]), (1, 3, []), (0, 9, [some (some (c + 12)), none, some (some (c + 13))]), (1, 800, []), (1, 16, [])]
theorem clS_CLD (hs : P.length = c) : clS (P ++ CLD c) c := by
  have e : ∀ i, (P ++ CLD c)[c + i]? = (CLD c)[i]? := fun i => g_at hs i
  exact ⟨e 0, ⟨e 1, e 2, by omega, by omega⟩, ⟨e 3, e 4, by omega, by omega⟩, ⟨e 5, e 6, by omega, by omega⟩, ⟨e 7, e 8, by omega, by omega⟩, ⟨e 9, e 10, by omega, by omega⟩, e 11, e 12⟩
theorem Ini_1 : Ini dd_X1_init (0, 1, [some none, some none, some none, some none, some none, some none]) CLD 14 (fun c I _ => F1 c I) := by
  intro P s I J hs h9
  obtain ⟨I1, J1, a1, a2, a3, a4⟩ := n_obj (I := I) (J := J) (L := []) (t := s + 1) (ci := 1) (k := 0) (fs := [some none, some none, some none, some none, some none, some none]) (Ini_tab (li_n 8) (li_n 2) (by omega) (by omega) (by omega)) hs rfl (by omega) rfl
  obtain ⟨I2, J2, b1, b2, b3, b4⟩ := n_obj (I := I1) (J := J1) (L := TBL 8 2 (s + 1)) (t := s + 3) (ci := 1) (k := 1) (fs := [some (some (s + 1)), some none, some none, some none, some none, some none]) (Ini_tab (li_n 6) (li_n 3) (by omega) (by omega) (by omega)) hs rfl (by omega) rfl
  obtain ⟨I3, J3, c1, c2, c3, c4⟩ := n_obj (I := I2) (J := J2) (L := TBL 8 2 (s + 1) ++ TBL 6 3 (s + 3)) (t := s + 5) (ci := 1) (k := 2) (fs := [some (some (s + 1)), some (some (s + 3)), some none, some none, some none, some none]) (Ini_tab (li_n 6) (li_n 1) (by omega) (by omega) (by omega)) hs rfl (by omega) rfl
  obtain ⟨I4, J4, d1, d2, d3, d4⟩ := n_obj (I := I3) (J := J3) (L := TBL 8 2 (s + 1) ++ TBL 6 3 (s + 3) ++ TBL 6 1 (s + 5)) (t := s + 7) (ci := 1) (k := 3) (fs := [some (some (s + 1)), some (some (s + 3)), some (some (s + 5)), some none, some none, some none]) (Ini_tab (li_n 8) (li_n 6) (by omega) (by omega) (by omega)) hs rfl (by omega) rfl
  obtain ⟨I5, J5, e1, e2, e3, e4⟩ := n_obj (I := I4) (J := J4) (L := TBL 8 2 (s + 1) ++ TBL 6 3 (s + 3) ++ TBL 6 1 (s + 5) ++ TBL 8 6 (s + 7)) (t := s + 9) (ci := 1) (k := 4) (fs := [some (some (s + 1)), some (some (s + 3)), some (some (s + 5)), some (some (s + 7)), some none, some none]) (Ini_tab (li_n 1) (li_n 3) (by omega) (by omega) (by omega)) hs rfl (by omega) rfl
  obtain ⟨I6, J6, f1, f2, f3, _⟩ := n_obj (I := I5) (J := J5) (L := TBL 8 2 (s + 1) ++ TBL 6 3 (s + 3) ++ TBL 6 1 (s + 5) ++ TBL 8 6 (s + 7) ++ TBL 1 3 (s + 9)) (t := s + 11) (ci := 1) (k := 5) (fs := [some (some (s + 1)), some (some (s + 3)), some (some (s + 5)), some (some (s + 7)), some (some (s + 9)), some none]) Ini_9 hs rfl (by omega) rfl
  have hC : clI I6 s := by
    refine ⟨⟨?_, ?_⟩, ⟨?_, ?_⟩, ⟨?_, ?_⟩, ⟨?_, ?_⟩, ⟨?_, ?_⟩⟩
    · rw [f2 _ (by omega), e2 _ (by omega), d2 _ (by omega), c2 _ (by omega), b2 _ (by omega)]; exact a4.1.1
    · rw [f2 _ (by omega), e2 _ (by omega), d2 _ (by omega), c2 _ (by omega), b2 _ (by omega)]; exact a4.1.2
    · rw [f2 _ (by omega), e2 _ (by omega), d2 _ (by omega), c2 _ (by omega)]; exact b4.1.1
    · rw [f2 _ (by omega), e2 _ (by omega), d2 _ (by omega), c2 _ (by omega)]; exact b4.1.2
    · rw [f2 _ (by omega), e2 _ (by omega), d2 _ (by omega)]; exact c4.1.1
    · rw [f2 _ (by omega), e2 _ (by omega), d2 _ (by omega)]; exact c4.1.2
    · rw [f2 _ (by omega), e2 _ (by omega)]; exact d4.1.1
    · rw [f2 _ (by omega), e2 _ (by omega)]; exact d4.1.2
    · rw [f2 _ (by omega)]; exact e4.1.1
    · rw [f2 _ (by omega)]; exact e4.1.2
  have hS := clS_CLD hs
  obtain ⟨I7, g1, g2, g3⟩ := c_resetG (J := J6) (x := 0) hS hC
  have rc : ab_rc (P ++ CLD s, I6, J6, 0) 1 s = some () := op_rc hS.1
  refine ⟨I7, J6, ?_, fun r hr => ?_, fun r hr => ?_, g3⟩
  · unfold dd_X1_init
    refine (a1 _).trans ((b1 _).trans ((c1 _).trans ((d1 _).trans ((e1 _).trans ((f1 _).trans ?_)))))
    show (ab_rc (P ++ CLD s, I6, J6, 0) 1 s).bind _ = _
    rw [rc, ob_s]
    show (dd_X1_reset s (P ++ CLD s, I6, J6, 0)).bind _ = _
    rw [g1, ob_s]
  · rw [g2 r (by omega), f2 r (by omega), e2 r (by omega), d2 r (by omega), c2 r (by omega), b2 r (by omega), a2 r (by omega)]
  · rw [f3 r (by omega), e3 r (by omega), d3 r (by omega), c3 r (by omega), b3 r (by omega), a3 r (by omega)]
end CC
