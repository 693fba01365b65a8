/-! ===== constructors: class, reference, and what then holds ===== -/
section CA
variable {S P L Q : List ab_Sh} {s t n c k : Nat} {I I' I0 : Nat → Nat → Int32} {J J' J0 : Nat → Nat → Int64} {x : Nat} {w : Int32}
def CLS : List ab_Sh := (0, 11, [some (some 1), some (some 18), some (some 32), some (some 42), some (some 52), some (some 175), some (some 180), some (some 192), some (some 195)]) :: (RDS 1 ++ CLD 18 ++ SIT 32 ++ SIT 42 ++ HIS 52 ++ BLS 175 ++ PKS 180 ++ EVS 192 ++ DRS 195)
/-- what holds of the class's cells when it is new -/
def FCL (I : Nat → Nat → Int32) (J : Nat → Nat → Int64) : Prop := (I 1 1 = 0 ∧ I 1 4 = -1) ∧ F1 4 I ∧ F1 18 I ∧ F8 32 I J ∧ siI I 42 ∧ (I 52 2 = 0 ∧ I 52 3 = 0 ∧ I 52 4 = 0) ∧ (∀ i, i < 12 → siI I (55 + 10 * i)) ∧ bI I ∧ tI I 183 729 2 ∧ tP I
set_option maxRecDepth 100000 in
theorem Ini_11 : ∃ I' J', dd_X11_init 0 ([] ++ [(0, 11, [some none, some none, some none, some none, some none, some none, some none, some none, some none])], I, J, 0) = some ((), ([] ++ CLS, I', J', 0)) ∧ FCL I' J' := by
  obtain ⟨I1, J1, a1, b1, c1, d1⟩ := n_obj (P := []) (s := 0) (I := I) (J := J) (L := ([] : List ab_Sh)) (t := 1) (ci := 11) (k := 0) (fs := [some none, some none, some none, some none, some none, some none, some none, some none, some none]) Ini_7 rfl rfl (by omega) rfl
  obtain ⟨I2, J2, a2, b2, c2, d2⟩ := n_obj (P := []) (s := 0) (I := I1) (J := J1) (L := RDS 1) (t := 18) (ci := 11) (k := 1) (fs := [some (some 1), some none, some none, some none, some none, some none, some none, some none, some none]) Ini_1 rfl rfl (by omega) rfl
  obtain ⟨I3, J3, a3, b3, c3, d3⟩ := n_obj (P := []) (s := 0) (I := I2) (J := J2) (L := RDS 1 ++ CLD 18) (t := 32) (ci := 11) (k := 2) (fs := [some (some 1), some (some 18), some none, some none, some none, some none, some none, some none, some none]) Ini_8 rfl rfl (by omega) rfl
  obtain ⟨I4, J4, a4, b4, c4, d4⟩ := n_obj (P := []) (s := 0) (I := I3) (J := J3) (L := RDS 1 ++ CLD 18 ++ SIT 32) (t := 42) (ci := 11) (k := 3) (fs := [some (some 1), some (some 18), some (some 32), some none, some none, some none, some none, some none, some none]) Ini_8 rfl rfl (by omega) rfl
  obtain ⟨I5, J5, a5, b5, c5, d5⟩ := n_obj (P := []) (s := 0) (I := I4) (J := J4) (L := RDS 1 ++ CLD 18 ++ SIT 32 ++ SIT 42) (t := 52) (ci := 11) (k := 4) (fs := [some (some 1), some (some 18), some (some 32), some (some 42), some none, some none, some none, some none, some none]) Ini_4 rfl rfl (by omega) rfl
  obtain ⟨I6, J6, a6, b6, c6, d6⟩ := n_obj (P := []) (s := 0) (I := I5) (J := J5) (L := RDS 1 ++ CLD 18 ++ SIT 32 ++ SIT 42 ++ HIS 52) (t := 175) (ci := 11) (k := 5) (fs := [some (some 1), some (some 18), some (some 32), some (some 42), some (some 52), some none, some none, some none, some none]) Ini_0 rfl rfl (by omega) rfl
  obtain ⟨I7, J7, a7, b7, c7, d7⟩ := n_obj (P := []) (s := 0) (I := I6) (J := J6) (L := RDS 1 ++ CLD 18 ++ SIT 32 ++ SIT 42 ++ HIS 52 ++ BLS 175) (t := 180) (ci := 11) (k := 6) (fs := [some (some 1), some (some 18), some (some 32), some (some 42), some (some 52), some (some 175), some none, some none, some none]) Ini_6 rfl rfl (by omega) rfl
  obtain ⟨I8, J8, a8, b8, c8, d8⟩ := n_obj (P := []) (s := 0) (I := I7) (J := J7) (L := RDS 1 ++ CLD 18 ++ SIT 32 ++ SIT 42 ++ HIS 52 ++ BLS 175 ++ PKS 180) (t := 192) (ci := 11) (k := 7) (fs := [some (some 1), some (some 18), some (some 32), some (some 42), some (some 52), some (some 175), some (some 180), some none, some none]) Ini_3 rfl rfl (by omega) rfl
  obtain ⟨I9, J9, a9, b9, c9, d9⟩ := n_obj (P := []) (s := 0) (I := I8) (J := J8) (L := RDS 1 ++ CLD 18 ++ SIT 32 ++ SIT 42 ++ HIS 52 ++ BLS 175 ++ PKS 180 ++ EVS 192) (t := 195) (ci := 11) (k := 8) (fs := [some (some 1), some (some 18), some (some 32), some (some 42), some (some 52), some (some 175), some (some 180), some (some 192), some none]) Ini_2 rfl rfl (by omega) rfl
  refine ⟨I9, J9, ?_, ⟨?_, ?_⟩, ?_, ?_, ?_, ?_, ⟨?_, ?_, ?_⟩, fun i hi => ?_, ⟨?_, ?_⟩, ?_, d9, ?_⟩
  · unfold dd_X11_init
    exact (a1 _).trans ((a2 _).trans ((a3 _).trans ((a4 _).trans ((a5 _).trans ((a6 _).trans ((a7 _).trans ((a8 _).trans (a9 _))))))))
  · rw [b9 1 (by omega), b8 1 (by omega), b7 1 (by omega), b6 1 (by omega), b5 1 (by omega), b4 1 (by omega), b3 1 (by omega), b2 1 (by omega)]; exact d1.1
  · rw [b9 1 (by omega), b8 1 (by omega), b7 1 (by omega), b6 1 (by omega), b5 1 (by omega), b4 1 (by omega), b3 1 (by omega), b2 1 (by omega)]; exact d1.2.1
  · have y : ∀ r, r < 18 → I9 r = I1 r := fun r hr => by rw [b9 r (by omega), b8 r (by omega), b7 r (by omega), b6 r (by omega), b5 r (by omega), b4 r (by omega), b3 r (by omega), b2 r (by omega)]
    have q : F1 4 I1 := d1.2.2
    unfold F1 clI tI at q ⊢
    rw [y (4 + 1) (by omega), y (4 + 3) (by omega), y (4 + 5) (by omega), y (4 + 7) (by omega), y (4 + 9) (by omega), y (4 + 2) (by omega), y (4 + 10) (by omega), y (4 + 11) (by omega), y (4 + 12) (by omega)]
    exact q
  · have y : ∀ r, r < 32 → I9 r = I2 r := fun r hr => by rw [b9 r (by omega), b8 r (by omega), b7 r (by omega), b6 r (by omega), b5 r (by omega), b4 r (by omega), b3 r (by omega)]
    have q : F1 18 I2 := d2
    unfold F1 clI tI at q ⊢
    rw [y (18 + 1) (by omega), y (18 + 3) (by omega), y (18 + 5) (by omega), y (18 + 7) (by omega), y (18 + 9) (by omega), y (18 + 2) (by omega), y (18 + 10) (by omega), y (18 + 11) (by omega), y (18 + 12) (by omega)]
    exact q
  · have y : ∀ r, r < 42 → I9 r = I3 r := fun r hr => by rw [b9 r (by omega), b8 r (by omega), b7 r (by omega), b6 r (by omega), b5 r (by omega), b4 r (by omega)]
    have z : ∀ r, r < 42 → J9 r = J3 r := fun r hr => by rw [c9 r (by omega), c8 r (by omega), c7 r (by omega), c6 r (by omega), c5 r (by omega), c4 r (by omega)]
    have q : F8 32 I3 J3 := d3
    unfold F8 siI tI at q ⊢
    rw [y (32 + 1) (by omega), y (32 + 3) (by omega), y (32 + 5) (by omega), y (32 + 7) (by omega), y 32 (by omega), y (32 + 8) (by omega), z (32 + 9) (by omega)]
    exact q
  · have y : ∀ r, r < 52 → I9 r = I4 r := fun r hr => by rw [b9 r (by omega), b8 r (by omega), b7 r (by omega), b6 r (by omega), b5 r (by omega)]
    have q : siI I4 42 := d4.1
    unfold siI tI at q ⊢
    rw [y (42 + 1) (by omega), y (42 + 3) (by omega), y (42 + 5) (by omega), y (42 + 7) (by omega)]
    exact q
  · rw [b9 52 (by omega), b8 52 (by omega), b7 52 (by omega), b6 52 (by omega)]; exact d5.1.1
  · rw [b9 52 (by omega), b8 52 (by omega), b7 52 (by omega), b6 52 (by omega)]; exact d5.1.2.1
  · rw [b9 52 (by omega), b8 52 (by omega), b7 52 (by omega), b6 52 (by omega)]; exact d5.1.2.2
  · have y : ∀ r, r < 175 → I9 r = I5 r := fun r hr => by rw [b9 r (by omega), b8 r (by omega), b7 r (by omega), b6 r (by omega)]
    have q : siI I5 (55 + 10 * i) := d5.2 i hi
    unfold siI tI at q ⊢
    rw [y (55 + 10 * i + 1) (by omega), y (55 + 10 * i + 3) (by omega), y (55 + 10 * i + 5) (by omega), y (55 + 10 * i + 7) (by omega)]
    exact q
  · have q : tI I6 176 6 1 := d6.1
    unfold tI at q ⊢
    rw [b9 176 (by omega), b8 176 (by omega), b7 176 (by omega)]; exact q
  · have q : tI I6 178 6 6 := d6.2
    unfold tI at q ⊢
    rw [b9 178 (by omega), b8 178 (by omega), b7 178 (by omega)]; exact q
  · have q : tI I7 183 729 2 := d7
    unfold tI at q ⊢
    rw [b9 183 (by omega), b8 183 (by omega)]; exact q
  · have q : tI I8 193 12 4 := d8
    unfold tI at q ⊢
    rw [b9 193 (by omega)]; exact q
/-- the reference's cells while they are being made -/
def ZI (I0 : Nat → Nat → Int32) (w : Int32) (t : Nat) (I : Nat → Nat → Int32) : Prop := (∀ r, r < 200 → I r = I0 r) ∧ (∀ k, k ≠ 17 → I 200 k = 0) ∧ I 200 17 = w ∧ ∀ r, 201 ≤ r → r < t → ∀ k, I r k = 0
theorem ZI_step (h : ZI I0 w t I) (ht : 201 ≤ t) : ZI I0 w (t + 1) (ab_i0 I t) := by
  obtain ⟨a, b, c, d⟩ := h
  refine ⟨fun r hr => by rw [ab_i0_off _ (by omega)]; exact a r hr, fun k hk => by rw [ab_i0_off _ (by omega)]; exact b k hk, by rw [ab_i0_off _ (by omega)]; exact c, fun r h1 h2 k => ?_⟩
  by_cases e : r = t
  · rw [e, ab_i0_row]
  · rw [ab_i0_off _ e]; exact d r h1 (by omega) k
theorem ZI_17 (h : ZI I0 w t I) (v : Int32) : ZI I0 v t (ab_u I 200 17 v) := by
  obtain ⟨a, b, c, d⟩ := h
  exact ⟨fun r hr => by rw [u_r (by omega)]; exact a r hr, fun k hk => by rw [u_k hk]; exact b k hk, u_e, fun r h1 h2 k => by rw [u_r (by omega)]; exact d r h1 h2 k⟩
def MSH : ab_Sh := (0, 12, [none, some none, some none, some none, some none, some none, some none, some none, some none, some none, none, none, none, none, none, none, none, none, none, none, none, some none, some none, some none, some none, some none, some none, none, some none, none, some none, some none, some none])
set_option maxRecDepth 100000 in
theorem Ini_12 (hP : CLS.length = 200) (h0 : ∀ k, I 200 k = 0) : ∃ Ia Ja, dd_X12_init 200 (CLS ++ [MSH], I, J, 0) = ((dd_X12_clearDraft 200 (S1, Ia, Ja, 0)).bind fun q40 => (ab_rc q40.2 12 200).bind fun _ => (dd_X12_liftsAll 200 q40.2).bind fun q41 => (ab_rc q41.2 12 200).bind fun _ => (dd_X12_begins 200 q41.2).bind fun q42 => some ((), q42.2)) ∧ ZI I (-1) 220 Ia ∧ ∀ r, r < 200 → Ja r = J r := by
  have z0 : ZI I 0 201 I := ⟨fun _ _ => rfl, fun k _ => h0 k, h0 17, fun r h1 h2 => by omega⟩
  have hJ0 : ∀ r, r < 200 → J r = J r := fun _ _ => rfl
  have e1 := fun G => n_arr (P := CLS) (s := 200) (I := I) (J := J) (L := ([] : List ab_Sh)) (t := 201) (ci := 12) (k := 1) (kd := 4) (fs := [none, some none, some none, some none, some none, some none, some none, some none, some none, some none, none, none, none, none, none, none, none, none, none, none, none, some none, some none, some none, some none, some none, some none, none, some none, none, some none, some none, some none]) hP rfl (by omega) (li_n 116) (by omega) rfl G
  have y1 := ZI_step z0 (show 201 ≤ 201 by omega)
  have w1 : ∀ r, r < 200 → ab_j0 J 201 r = J r := fun r hr => (ab_j0_off _ (by omega)).trans (hJ0 r hr)
  obtain ⟨K1, hK1⟩ : ∃ K, K = ab_i0 I 201 := ⟨_, rfl⟩
  obtain ⟨N1, hN1⟩ : ∃ N, N = ab_j0 J 201 := ⟨_, rfl⟩
  rw [← hK1] at y1
  simp only [← hK1, ← hN1] at e1
  rw [← hN1] at w1
  have e2 := fun G => n_arr (P := CLS) (s := 200) (I := K1) (J := N1) (L := [(4, 116, [])]) (t := 202) (ci := 12) (k := 2) (kd := 1) (fs := [none, some (some 201), some none, some none, some none, some none, some none, some none, some none, some none, none, none, none, none, none, none, none, none, none, none, none, some none, some none, some none, some none, some none, some none, none, some none, none, some none, some none, some none]) hP rfl (by omega) (li_n 14) (by omega) rfl G
  have y2 := ZI_step y1 (show 201 ≤ 202 by omega)
  have w2 : ∀ r, r < 200 → ab_j0 N1 202 r = J r := fun r hr => (ab_j0_off _ (by omega)).trans (w1 r hr)
  obtain ⟨K2, hK2⟩ : ∃ K, K = ab_i0 K1 202 := ⟨_, rfl⟩
  obtain ⟨N2, hN2⟩ : ∃ N, N = ab_j0 N1 202 := ⟨_, rfl⟩
  rw [← hK2] at y2
  simp only [← hK2, ← hN2] at e2
  rw [← hN2] at w2
  have e3 := fun G => n_arr (P := CLS) (s := 200) (I := K2) (J := N2) (L := [(4, 116, []), (1, 14, [])]) (t := 203) (ci := 12) (k := 3) (kd := 1) (fs := [none, some (some 201), some (some 202), some none, some none, some none, some none, some none, some none, some none, none, none, none, none, none, none, none, none, none, none, none, some none, some none, some none, some none, some none, some none, none, some none, none, some none, some none, some none]) hP rfl (by omega) (li_n 32) (by omega) rfl G
  have y3 := ZI_step y2 (show 201 ≤ 203 by omega)
  have w3 : ∀ r, r < 200 → ab_j0 N2 203 r = J r := fun r hr => (ab_j0_off _ (by omega)).trans (w2 r hr)
  obtain ⟨K3, hK3⟩ : ∃ K, K = ab_i0 K2 203 := ⟨_, rfl⟩
  obtain ⟨N3, hN3⟩ : ∃ N, N = ab_j0 N2 203 := ⟨_, rfl⟩
  rw [← hK3] at y3
  simp only [← hK3, ← hN3] at e3
  rw [← hN3] at w3
  have e4 := fun G => n_arr (P := CLS) (s := 200) (I := K3) (J := N3) (L := [(4, 116, []), (1, 14, []), (1, 32, [])]) (t := 204) (ci := 12) (k := 4) (kd := 1) (fs := [none, some (some 201), some (some 202), some (some 203), some none, some none, some none, some none, some none, some none, none, none, none, none, none, none, none, none, none, none, none, some none, some none, some none, some none, some none, some none, none, some none, none, some none, some none, some none]) hP rfl (by omega) (li_n 36) (by omega) rfl G
  have y4 := ZI_step y3 (show 201 ≤ 204 by omega)
  have w4 : ∀ r, r < 200 → ab_j0 N3 204 r = J r := fun r hr => (ab_j0_off _ (by omega)).trans (w3 r hr)
  obtain ⟨K4, hK4⟩ : ∃ K, K = ab_i0 K3 204 := ⟨_, rfl⟩
  obtain ⟨N4, hN4⟩ : ∃ N, N = ab_j0 N3 204 := ⟨_, rfl⟩
  rw [← hK4] at y4
  simp only [← hK4, ← hN4] at e4
  rw [← hN4] at w4
  have e5 := fun G => n_arr (P := CLS) (s := 200) (I := K4) (J := N4) (L := [(4, 116, []), (1, 14, []), (1, 32, []), (1, 36, [])]) (t := 205) (ci := 12) (k := 5) (kd := 1) (fs := [none, some (some 201), some (some 202), some (some 203), some (some 204), some none, some none, some none, some none, some none, none, none, none, none, none, none, none, none, none, none, none, some none, some none, some none, some none, some none, some none, none, some none, none, some none, some none, some none]) hP rfl (by omega) (li_n 12) (by omega) rfl G
  have y5 := ZI_step y4 (show 201 ≤ 205 by omega)
  have w5 : ∀ r, r < 200 → ab_j0 N4 205 r = J r := fun r hr => (ab_j0_off _ (by omega)).trans (w4 r hr)
  obtain ⟨K5, hK5⟩ : ∃ K, K = ab_i0 K4 205 := ⟨_, rfl⟩
  obtain ⟨N5, hN5⟩ : ∃ N, N = ab_j0 N4 205 := ⟨_, rfl⟩
  rw [← hK5] at y5
  simp only [← hK5, ← hN5] at e5
  rw [← hN5] at w5
  have e6 := fun G => n_arr (P := CLS) (s := 200) (I := K5) (J := N5) (L := [(4, 116, []), (1, 14, []), (1, 32, []), (1, 36, []), (1, 12, [])]) (t := 206) (ci := 12) (k := 6) (kd := 1) (fs := [none, some (some 201), some (some 202), some (some 203), some (some 204), some (some 205), some none, some none, some none, some none, none, none, none, none, none, none, none, none, none, none, none, some none, some none, some none, some none, some none, some none, none, some none, none, some none, some none, some none]) hP rfl (by omega) (li_n 96) (by omega) rfl G
  have y6 := ZI_step y5 (show 201 ≤ 206 by omega)
  have w6 : ∀ r, r < 200 → ab_j0 N5 206 r = J r := fun r hr => (ab_j0_off _ (by omega)).trans (w5 r hr)
  obtain ⟨K6, hK6⟩ : ∃ K, K = ab_i0 K5 206 := ⟨_, rfl⟩
  obtain ⟨N6, hN6⟩ : ∃ N, N = ab_j0 N5 206 := ⟨_, rfl⟩
  rw [← hK6] at y6
  simp only [← hK6, ← hN6] at e6
  rw [← hN6] at w6
  have e7 := fun G => n_arr (P := CLS) (s := 200) (I := K6) (J := N6) (L := [(4, 116, []), (1, 14, []), (1, 32, []), (1, 36, []), (1, 12, []), (1, 96, [])]) (t := 207) (ci := 12) (k := 7) (kd := 1) (fs := [none, some (some 201), some (some 202), some (some 203), some (some 204), some (some 205), some (some 206), some none, some none, some none, none, none, none, none, none, none, none, none, none, none, none, some none, some none, some none, some none, some none, some none, none, some none, none, some none, some none, some none]) hP rfl (by omega) (li_n 2) (by omega) rfl G
  have y7 := ZI_step y6 (show 201 ≤ 207 by omega)
  have w7 : ∀ r, r < 200 → ab_j0 N6 207 r = J r := fun r hr => (ab_j0_off _ (by omega)).trans (w6 r hr)
  obtain ⟨K7, hK7⟩ : ∃ K, K = ab_i0 K6 207 := ⟨_, rfl⟩
  obtain ⟨N7, hN7⟩ : ∃ N, N = ab_j0 N6 207 := ⟨_, rfl⟩
  rw [← hK7] at y7
  simp only [← hK7, ← hN7] at e7
  rw [← hN7] at w7
  have e8 := fun G => n_arr (P := CLS) (s := 200) (I := K7) (J := N7) (L := [(4, 116, []), (1, 14, []), (1, 32, []), (1, 36, []), (1, 12, []), (1, 96, []), (1, 2, [])]) (t := 208) (ci := 12) (k := 8) (kd := 1) (fs := [none, some (some 201), some (some 202), some (some 203), some (some 204), some (some 205), some (some 206), some (some 207), some none, some none, none, none, none, none, none, none, none, none, none, none, none, some none, some none, some none, some none, some none, some none, none, some none, none, some none, some none, some none]) hP rfl (by omega) (li_n 1640) (by omega) rfl G
  have y8 := ZI_step y7 (show 201 ≤ 208 by omega)
  have w8 : ∀ r, r < 200 → ab_j0 N7 208 r = J r := fun r hr => (ab_j0_off _ (by omega)).trans (w7 r hr)
  obtain ⟨K8, hK8⟩ : ∃ K, K = ab_i0 K7 208 := ⟨_, rfl⟩
  obtain ⟨N8, hN8⟩ : ∃ N, N = ab_j0 N7 208 := ⟨_, rfl⟩
  rw [← hK8] at y8
  simp only [← hK8, ← hN8] at e8
  rw [← hN8] at w8
  have e9 := fun G => n_arr (P := CLS) (s := 200) (I := K8) (J := N8) (L := [(4, 116, []), (1, 14, []), (1, 32, []), (1, 36, []), (1, 12, []), (1, 96, []), (1, 2, []), (1, 1640, [])]) (t := 209) (ci := 12) (k := 9) (kd := 2) (fs := [none, some (some 201), some (some 202), some (some 203), some (some 204), some (some 205), some (some 206), some (some 207), some (some 208), some none, none, none, none, none, none, none, none, none, none, none, none, some none, some none, some none, some none, some none, some none, none, some none, none, some none, some none, some none]) hP rfl (by omega) (li_n 800) (by omega) rfl G
  have y9 := ZI_step y8 (show 201 ≤ 209 by omega)
  have w9 : ∀ r, r < 200 → ab_j0 N8 209 r = J r := fun r hr => (ab_j0_off _ (by omega)).trans (w8 r hr)
  obtain ⟨K9, hK9⟩ : ∃ K, K = ab_i0 K8 209 := ⟨_, rfl⟩
  obtain ⟨N9, hN9⟩ : ∃ N, N = ab_j0 N8 209 := ⟨_, rfl⟩
  rw [← hK9] at y9
  simp only [← hK9, ← hN9] at e9
  rw [← hN9] at w9
  have e10 : ab_pI (CLS ++ (0, 12, [none, some (some 201), some (some 202), some (some 203), some (some 204), some (some 205), some (some 206), some (some 207), some (some 208), some (some 209), none, none, none, none, none, none, none, none, none, none, none, some none, some none, some none, some none, some none, some none, none, some none, none, some none, some none, some none]) :: [(4, 116, []), (1, 14, []), (1, 32, []), (1, 36, []), (1, 12, []), (1, 96, []), (1, 2, []), (1, 1640, []), (2, 800, [])], K9, N9, 0) 12 200 17 (-1) = some (CLS ++ (0, 12, [none, some (some 201), some (some 202), some (some 203), some (some 204), some (some 205), some (some 206), some (some 207), some (some 208), some (some 209), none, none, none, none, none, none, none, none, none, none, none, some none, some none, some none, some none, some none, some none, none, some none, none, some none, some none, some none]) :: [(4, 116, []), (1, 14, []), (1, 32, []), (1, 36, []), (1, 12, []), (1, 96, []), (1, 2, []), (1, 1640, []), (2, 800, [])], ab_u K9 200 17 (-1), N9, 0) := n_own hP (-1) rfl
  have y10 := ZI_17 y9 (-1)
  obtain ⟨K10, hK10⟩ : ∃ K, K = ab_u K9 200 17 (-1) := ⟨_, rfl⟩
  rw [← hK10] at e10 y10
  have e11 := fun G => n_arr (P := CLS) (s := 200) (I := K10) (J := N9) (L := [(4, 116, []), (1, 14, []), (1, 32, []), (1, 36, []), (1, 12, []), (1, 96, []), (1, 2, []), (1, 1640, []), (2, 800, [])]) (t := 210) (ci := 12) (k := 21) (kd := 1) (fs := [none, some (some 201), some (some 202), some (some 203), some (some 204), some (some 205), some (some 206), some (some 207), some (some 208), some (some 209), none, none, none, none, none, none, none, none, none, none, none, some none, some none, some none, some none, some none, some none, none, some none, none, some none, some none, some none]) hP rfl (by omega) (li_n 40) (by omega) rfl G
  have y11 := ZI_step y10 (show 201 ≤ 210 by omega)
  have w11 : ∀ r, r < 200 → ab_j0 N9 210 r = J r := fun r hr => (ab_j0_off _ (by omega)).trans (w9 r hr)
  obtain ⟨K11, hK11⟩ : ∃ K, K = ab_i0 K10 210 := ⟨_, rfl⟩
  obtain ⟨N11, hN11⟩ : ∃ N, N = ab_j0 N9 210 := ⟨_, rfl⟩
  rw [← hK11] at y11
  simp only [← hK11, ← hN11] at e11
  rw [← hN11] at w11
  have e12 := fun G => n_arr (P := CLS) (s := 200) (I := K11) (J := N11) (L := [(4, 116, []), (1, 14, []), (1, 32, []), (1, 36, []), (1, 12, []), (1, 96, []), (1, 2, []), (1, 1640, []), (2, 800, []), (1, 40, [])]) (t := 211) (ci := 12) (k := 22) (kd := 1) (fs := [none, some (some 201), some (some 202), some (some 203), some (some 204), some (some 205), some (some 206), some (some 207), some (some 208), some (some 209), none, none, none, none, none, none, none, none, none, none, none, some (some 210), some none, some none, some none, some none, some none, none, some none, none, some none, some none, some none]) hP rfl (by omega) (li_n 4096) (by omega) rfl G
  have y12 := ZI_step y11 (show 201 ≤ 211 by omega)
  have w12 : ∀ r, r < 200 → ab_j0 N11 211 r = J r := fun r hr => (ab_j0_off _ (by omega)).trans (w11 r hr)
  obtain ⟨K12, hK12⟩ : ∃ K, K = ab_i0 K11 211 := ⟨_, rfl⟩
  obtain ⟨N12, hN12⟩ : ∃ N, N = ab_j0 N11 211 := ⟨_, rfl⟩
  rw [← hK12] at y12
  simp only [← hK12, ← hN12] at e12
  rw [← hN12] at w12
  have e13 := fun G => n_arr (P := CLS) (s := 200) (I := K12) (J := N12) (L := [(4, 116, []), (1, 14, []), (1, 32, []), (1, 36, []), (1, 12, []), (1, 96, []), (1, 2, []), (1, 1640, []), (2, 800, []), (1, 40, []), (1, 4096, [])]) (t := 212) (ci := 12) (k := 23) (kd := 1) (fs := [none, some (some 201), some (some 202), some (some 203), some (some 204), some (some 205), some (some 206), some (some 207), some (some 208), some (some 209), none, none, none, none, none, none, none, none, none, none, none, some (some 210), some (some 211), some none, some none, some none, some none, none, some none, none, some none, some none, some none]) hP rfl (by omega) (li_n 4096) (by omega) rfl G
  have y13 := ZI_step y12 (show 201 ≤ 212 by omega)
  have w13 : ∀ r, r < 200 → ab_j0 N12 212 r = J r := fun r hr => (ab_j0_off _ (by omega)).trans (w12 r hr)
  obtain ⟨K13, hK13⟩ : ∃ K, K = ab_i0 K12 212 := ⟨_, rfl⟩
  obtain ⟨N13, hN13⟩ : ∃ N, N = ab_j0 N12 212 := ⟨_, rfl⟩
  rw [← hK13] at y13
  simp only [← hK13, ← hN13] at e13
  rw [← hN13] at w13
  have e14 := fun G => n_arr (P := CLS) (s := 200) (I := K13) (J := N13) (L := [(4, 116, []), (1, 14, []), (1, 32, []), (1, 36, []), (1, 12, []), (1, 96, []), (1, 2, []), (1, 1640, []), (2, 800, []), (1, 40, []), (1, 4096, []), (1, 4096, [])]) (t := 213) (ci := 12) (k := 24) (kd := 1) (fs := [none, some (some 201), some (some 202), some (some 203), some (some 204), some (some 205), some (some 206), some (some 207), some (some 208), some (some 209), none, none, none, none, none, none, none, none, none, none, none, some (some 210), some (some 211), some (some 212), some none, some none, some none, none, some none, none, some none, some none, some none]) hP rfl (by omega) (li_n 4096) (by omega) rfl G
  have y14 := ZI_step y13 (show 201 ≤ 213 by omega)
  have w14 : ∀ r, r < 200 → ab_j0 N13 213 r = J r := fun r hr => (ab_j0_off _ (by omega)).trans (w13 r hr)
  obtain ⟨K14, hK14⟩ : ∃ K, K = ab_i0 K13 213 := ⟨_, rfl⟩
  obtain ⟨N14, hN14⟩ : ∃ N, N = ab_j0 N13 213 := ⟨_, rfl⟩
  rw [← hK14] at y14
  simp only [← hK14, ← hN14] at e14
  rw [← hN14] at w14
  have e15 := fun G => n_arr (P := CLS) (s := 200) (I := K14) (J := N14) (L := [(4, 116, []), (1, 14, []), (1, 32, []), (1, 36, []), (1, 12, []), (1, 96, []), (1, 2, []), (1, 1640, []), (2, 800, []), (1, 40, []), (1, 4096, []), (1, 4096, []), (1, 4096, [])]) (t := 214) (ci := 12) (k := 25) (kd := 1) (fs := [none, some (some 201), some (some 202), some (some 203), some (some 204), some (some 205), some (some 206), some (some 207), some (some 208), some (some 209), none, none, none, none, none, none, none, none, none, none, none, some (some 210), some (some 211), some (some 212), some (some 213), some none, some none, none, some none, none, some none, some none, some none]) hP rfl (by omega) (li_n 4096) (by omega) rfl G
  have y15 := ZI_step y14 (show 201 ≤ 214 by omega)
  have w15 : ∀ r, r < 200 → ab_j0 N14 214 r = J r := fun r hr => (ab_j0_off _ (by omega)).trans (w14 r hr)
  obtain ⟨K15, hK15⟩ : ∃ K, K = ab_i0 K14 214 := ⟨_, rfl⟩
  obtain ⟨N15, hN15⟩ : ∃ N, N = ab_j0 N14 214 := ⟨_, rfl⟩
  rw [← hK15] at y15
  simp only [← hK15, ← hN15] at e15
  rw [← hN15] at w15
  have e16 := fun G => n_arr (P := CLS) (s := 200) (I := K15) (J := N15) (L := [(4, 116, []), (1, 14, []), (1, 32, []), (1, 36, []), (1, 12, []), (1, 96, []), (1, 2, []), (1, 1640, []), (2, 800, []), (1, 40, []), (1, 4096, []), (1, 4096, []), (1, 4096, []), (1, 4096, [])]) (t := 215) (ci := 12) (k := 26) (kd := 1) (fs := [none, some (some 201), some (some 202), some (some 203), some (some 204), some (some 205), some (some 206), some (some 207), some (some 208), some (some 209), none, none, none, none, none, none, none, none, none, none, none, some (some 210), some (some 211), some (some 212), some (some 213), some (some 214), some none, none, some none, none, some none, some none, some none]) hP rfl (by omega) (li_n 12) (by omega) rfl G
  have y16 := ZI_step y15 (show 201 ≤ 215 by omega)
  have w16 : ∀ r, r < 200 → ab_j0 N15 215 r = J r := fun r hr => (ab_j0_off _ (by omega)).trans (w15 r hr)
  obtain ⟨K16, hK16⟩ : ∃ K, K = ab_i0 K15 215 := ⟨_, rfl⟩
  obtain ⟨N16, hN16⟩ : ∃ N, N = ab_j0 N15 215 := ⟨_, rfl⟩
  rw [← hK16] at y16
  simp only [← hK16, ← hN16] at e16
  rw [← hN16] at w16
  have e17 := fun G => n_arr (P := CLS) (s := 200) (I := K16) (J := N16) (L := [(4, 116, []), (1, 14, []), (1, 32, []), (1, 36, []), (1, 12, []), (1, 96, []), (1, 2, []), (1, 1640, []), (2, 800, []), (1, 40, []), (1, 4096, []), (1, 4096, []), (1, 4096, []), (1, 4096, []), (1, 12, [])]) (t := 216) (ci := 12) (k := 28) (kd := 4) (fs := [none, some (some 201), some (some 202), some (some 203), some (some 204), some (some 205), some (some 206), some (some 207), some (some 208), some (some 209), none, none, none, none, none, none, none, none, none, none, none, some (some 210), some (some 211), some (some 212), some (some 213), some (some 214), some (some 215), none, some none, none, some none, some none, some none]) hP rfl (by omega) (li_n 116) (by omega) rfl G
  have y17 := ZI_step y16 (show 201 ≤ 216 by omega)
  have w17 : ∀ r, r < 200 → ab_j0 N16 216 r = J r := fun r hr => (ab_j0_off _ (by omega)).trans (w16 r hr)
  obtain ⟨K17, hK17⟩ : ∃ K, K = ab_i0 K16 216 := ⟨_, rfl⟩
  obtain ⟨N17, hN17⟩ : ∃ N, N = ab_j0 N16 216 := ⟨_, rfl⟩
  rw [← hK17] at y17
  simp only [← hK17, ← hN17] at e17
  rw [← hN17] at w17
  have e18 := fun G => n_arr (P := CLS) (s := 200) (I := K17) (J := N17) (L := [(4, 116, []), (1, 14, []), (1, 32, []), (1, 36, []), (1, 12, []), (1, 96, []), (1, 2, []), (1, 1640, []), (2, 800, []), (1, 40, []), (1, 4096, []), (1, 4096, []), (1, 4096, []), (1, 4096, []), (1, 12, []), (4, 116, [])]) (t := 217) (ci := 12) (k := 30) (kd := 4) (fs := [none, some (some 201), some (some 202), some (some 203), some (some 204), some (some 205), some (some 206), some (some 207), some (some 208), some (some 209), none, none, none, none, none, none, none, none, none, none, none, some (some 210), some (some 211), some (some 212), some (some 213), some (some 214), some (some 215), none, some (some 216), none, some none, some none, some none]) hP rfl (by omega) (li_n 1160) (by omega) rfl G
  have y18 := ZI_step y17 (show 201 ≤ 217 by omega)
  have w18 : ∀ r, r < 200 → ab_j0 N17 217 r = J r := fun r hr => (ab_j0_off _ (by omega)).trans (w17 r hr)
  obtain ⟨K18, hK18⟩ : ∃ K, K = ab_i0 K17 217 := ⟨_, rfl⟩
  obtain ⟨N18, hN18⟩ : ∃ N, N = ab_j0 N17 217 := ⟨_, rfl⟩
  rw [← hK18] at y18
  simp only [← hK18, ← hN18] at e18
  rw [← hN18] at w18
  have e19 := fun G => n_arr (P := CLS) (s := 200) (I := K18) (J := N18) (L := [(4, 116, []), (1, 14, []), (1, 32, []), (1, 36, []), (1, 12, []), (1, 96, []), (1, 2, []), (1, 1640, []), (2, 800, []), (1, 40, []), (1, 4096, []), (1, 4096, []), (1, 4096, []), (1, 4096, []), (1, 12, []), (4, 116, []), (4, 1160, [])]) (t := 218) (ci := 12) (k := 31) (kd := 4) (fs := [none, some (some 201), some (some 202), some (some 203), some (some 204), some (some 205), some (some 206), some (some 207), some (some 208), some (some 209), none, none, none, none, none, none, none, none, none, none, none, some (some 210), some (some 211), some (some 212), some (some 213), some (some 214), some (some 215), none, some (some 216), none, some (some 217), some none, some none]) hP rfl (by omega) (li_n 232) (by omega) rfl G
  have y19 := ZI_step y18 (show 201 ≤ 218 by omega)
  have w19 : ∀ r, r < 200 → ab_j0 N18 218 r = J r := fun r hr => (ab_j0_off _ (by omega)).trans (w18 r hr)
  obtain ⟨K19, hK19⟩ : ∃ K, K = ab_i0 K18 218 := ⟨_, rfl⟩
  obtain ⟨N19, hN19⟩ : ∃ N, N = ab_j0 N18 218 := ⟨_, rfl⟩
  rw [← hK19] at y19
  simp only [← hK19, ← hN19] at e19
  rw [← hN19] at w19
  have e20 := fun G => n_arr (P := CLS) (s := 200) (I := K19) (J := N19) (L := [(4, 116, []), (1, 14, []), (1, 32, []), (1, 36, []), (1, 12, []), (1, 96, []), (1, 2, []), (1, 1640, []), (2, 800, []), (1, 40, []), (1, 4096, []), (1, 4096, []), (1, 4096, []), (1, 4096, []), (1, 12, []), (4, 116, []), (4, 1160, []), (4, 232, [])]) (t := 219) (ci := 12) (k := 32) (kd := 3) (fs := [none, some (some 201), some (some 202), some (some 203), some (some 204), some (some 205), some (some 206), some (some 207), some (some 208), some (some 209), none, none, none, none, none, none, none, none, none, none, none, some (some 210), some (some 211), some (some 212), some (some 213), some (some 214), some (some 215), none, some (some 216), none, some (some 217), some (some 218), some none]) hP rfl (by omega) (li_n 2) (by omega) rfl G
  have y20 := ZI_step y19 (show 201 ≤ 219 by omega)
  have w20 : ∀ r, r < 200 → ab_j0 N19 219 r = J r := fun r hr => (ab_j0_off _ (by omega)).trans (w19 r hr)
  obtain ⟨K20, hK20⟩ : ∃ K, K = ab_i0 K19 219 := ⟨_, rfl⟩
  obtain ⟨N20, hN20⟩ : ∃ N, N = ab_j0 N19 219 := ⟨_, rfl⟩
  rw [← hK20] at y20
  simp only [← hK20, ← hN20] at e20
  rw [← hN20] at w20
  have eS : CLS ++ (0, 12, [none, some (some 201), some (some 202), some (some 203), some (some 204), some (some 205), some (some 206), some (some 207), some (some 208), some (some 209), none, none, none, none, none, none, none, none, none, none, none, some (some 210), some (some 211), some (some 212), some (some 213), some (some 214), some (some 215), none, some (some 216), none, some (some 217), some (some 218), some (some 219)]) :: [(4, 116, []), (1, 14, []), (1, 32, []), (1, 36, []), (1, 12, []), (1, 96, []), (1, 2, []), (1, 1640, []), (2, 800, []), (1, 40, []), (1, 4096, []), (1, 4096, []), (1, 4096, []), (1, 4096, []), (1, 12, []), (4, 116, []), (4, 1160, []), (4, 232, []), (3, 2, [])] = S1 := rfl
  have rc : ab_rc (S1, K20, N20, 0) 12 200 = some () := op_rc (fs := [none, some (some 201), some (some 202), some (some 203), some (some 204), some (some 205), some (some 206), some (some 207), some (some 208), some (some 209), none, none, none, none, none, none, none, none, none, none, none, some (some 210), some (some 211), some (some 212), some (some 213), some (some 214), some (some 215), none, some (some 216), none, some (some 217), some (some 218), some (some 219)]) rfl
  refine ⟨K20, N20, ?_, y20, w20⟩
  unfold dd_X12_init
  refine (e1 _).trans ((e2 _).trans ((e3 _).trans ((e4 _).trans ((e5 _).trans ((e6 _).trans ((e7 _).trans ((e8 _).trans ((e9 _).trans (?_)))))))))
  show (ab_pI (CLS ++ (0, 12, [none, some (some 201), some (some 202), some (some 203), some (some 204), some (some 205), some (some 206), some (some 207), some (some 208), some (some 209), none, none, none, none, none, none, none, none, none, none, none, some none, some none, some none, some none, some none, some none, none, some none, none, some none, some none, some none]) :: [(4, 116, []), (1, 14, []), (1, 32, []), (1, 36, []), (1, 12, []), (1, 96, []), (1, 2, []), (1, 1640, []), (2, 800, [])], K9, N9, 0) 12 200 17 (-1)).bind _ = _
  rw [e10, ob_s]
  refine (e11 _).trans ((e12 _).trans ((e13 _).trans ((e14 _).trans ((e15 _).trans ((e16 _).trans ((e17 _).trans ((e18 _).trans ((e19 _).trans ((e20 _).trans (?_))))))))))
  show (ab_rc (CLS ++ (0, 12, [none, some (some 201), some (some 202), some (some 203), some (some 204), some (some 205), some (some 206), some (some 207), some (some 208), some (some 209), none, none, none, none, none, none, none, none, none, none, none, some (some 210), some (some 211), some (some 212), some (some 213), some (some 214), some (some 215), none, some (some 216), none, some (some 217), some (some 218), some (some 219)]) :: [(4, 116, []), (1, 14, []), (1, 32, []), (1, 36, []), (1, 12, []), (1, 96, []), (1, 2, []), (1, 1640, []), (2, 800, []), (1, 40, []), (1, 4096, []), (1, 4096, []), (1, 4096, []), (1, 4096, []), (1, 12, []), (4, 116, []), (4, 1160, []), (4, 232, []), (3, 2, [])], K20, N20, 0) 12 200).bind _ = _
  rw [eS, rc, ob_s]
  show (dd_X12_clearDraft 200 (CLS ++ (0, 12, [none, some (some 201), some (some 202), some (some 203), some (some 204), some (some 205), some (some 206), some (some 207), some (some 208), some (some 209), none, none, none, none, none, none, none, none, none, none, none, some (some 210), some (some 211), some (some 212), some (some 213), some (some 214), some (some 215), none, some (some 216), none, some (some 217), some (some 218), some (some 219)]) :: [(4, 116, []), (1, 14, []), (1, 32, []), (1, 36, []), (1, 12, []), (1, 96, []), (1, 2, []), (1, 1640, []), (2, 800, []), (1, 40, []), (1, 4096, []), (1, 4096, []), (1, 4096, []), (1, 4096, []), (1, 12, []), (4, 116, []), (4, 1160, []), (4, 232, []), (3, 2, [])], K20, N20, 0)).bind _ = _
  rw [eS]
end CA
