/-! ===== the first memory ===== -/
section I0
variable {I I' Ia M M1 M2 M3 : Nat → Nat → Int32} {J J' Ja : Nat → Nat → Int64} {f : Nat → Int64}
/-- what the reference's beginning makes of it -/
theorem Inv_0 (hC : FCL I J) (hz : ZI I (-1) 220 Ia) (hJ : ∀ r, r < 200 → Ja r = J r) (c1 : ∀ r, r ≠ 202 → r ≠ 207 → r ≠ 208 → M1 r = Ia r) (c2 : dm0 M1) (l : lft M1 M2) (h0 : f0P f) (b1 : ∀ r, r ≠ 200 → r ≠ 219 → M3 r = M2 r) (b2 : ∀ k, k ≠ 29 → M3 200 k = M2 200 k) (b3 : M3 200 29 = 0) (b4 : M3 219 0 = 0) (b5 : M3 219 1 = 0) : Inv (ab_i0 M3 220) (ab_j0 (jr Ja (prF M2 0 0 f)) 220) := by
  obtain ⟨⟨r1, r3⟩, d3, d17, d31, d41, ⟨h2, h3, h4⟩, h54, hb, h182, h196⟩ := hC
  obtain ⟨z1, z2, z3, z4⟩ := hz
  obtain ⟨l0, l1, l2, l3, l4, l5, l6, l7⟩ := l
  obtain ⟨⟨m7, m8, m9, m10⟩, ⟨m11, m12, m13⟩, m205, m206⟩ := c2
  have o2 : ∀ r, r < 200 → M2 r = I r := fun r hr => by rw [l0 r (by omega), c1 r (by omega) (by omega) (by omega), z1 r hr]
  have o3 : ∀ r, r ≠ 200 → r ≠ 219 → r ≠ 220 → ab_i0 M3 220 r = M2 r := fun r p q t => by rw [ab_i0_off _ t, b1 r p q]
  have o : ∀ r, r < 200 → ab_i0 M3 220 r = I r := fun r hr => by rw [o3 r (by omega) (by omega) (by omega), o2 r hr]
  have mc0 : mc M2 0 0 0 0 := ⟨⟨by rw [l1 0 (by omega)]; exact m7, by rw [l1 1 (by omega)]; exact m8, by rw [l1 2 (by omega)]; exact m9, by rw [l1 3 (by omega)]; exact m10⟩, by omega, by omega, by omega, by omega⟩
  have mrg0 : mrg M2 0 0 0 0 := by
    refine ⟨fun h hh => by omega, fun h hh => by omega, fun h hh => by omega, fun h hh => by omega, ?_, ?_, ?_⟩
    · rw [l1 4 (by omega)]; exact ⟨20, m11, by omega, by omega⟩
    · rw [l1 5 (by omega)]; exact ⟨2, m12, by omega, by omega⟩
    · rw [l1 6 (by omega)]; exact ⟨100, m13, by omega, by omega⟩
  obtain ⟨f1, ⟨f2, f3, f4, f5, f6⟩, f7, ⟨f8, f9, f10⟩, f11, f12⟩ := d17
  have clR0 : clR M2 0 0 0 0 := by
    refine ⟨?_, ⟨?_, ?_, ?_, ?_⟩, fun h hh => by omega, fun h _ hh => ?_, fun h hh => by omega, fun h hh => by omega, fun h hh => by omega, ?_, ?_, ?_⟩
    · have q := f1
      unfold clI tI at q ⊢
      rw [o2 (18 + 1) (by omega), o2 (18 + 3) (by omega), o2 (18 + 5) (by omega), o2 (18 + 7) (by omega), o2 (18 + 9) (by omega)]
      exact q
    · rw [o2 19 (by omega)]; exact f2
    · rw [o2 21 (by omega)]; exact f3
    · rw [o2 23 (by omega)]; exact f4
    · rw [o2 25 (by omega)]; exact f5
    · show M2 (18 + 1 + 1) (h * 2 + 0) = 0
      rw [o2 (18 + 1 + 1) (by omega)]; exact f7 _ (by omega)
    · show M2 (18 + 9 + 1) (0 * 3 + 0) = _
      rw [o2 (18 + 9 + 1) (by omega), l1 4 (by omega)]; exact f8.trans m11.symm
    · show M2 (18 + 9 + 1) (0 * 3 + 1) = _
      rw [o2 (18 + 9 + 1) (by omega), l1 5 (by omega)]; exact f9.trans m12.symm
    · show M2 (18 + 9 + 1) (0 * 3 + 2) = _
      rw [o2 (18 + 9 + 1) (by omega), l1 6 (by omega)]; exact f10.trans m13.symm
  have e206 : M2 208 0 = 2 := by rw [l7 0 (by omega)]; exact m206
  have cdR0 : cdR M2 := by
    refine ⟨1, by omega, by rw [o2 29 (by omega)]; exact f11, by rw [l6 0 (by omega)]; exact m205, fun k hk => ?_, ?_⟩
    · have ek : k = 0 := by omega
      have e29 : M2 30 0 = -2 := by rw [o2 30 (by omega)]; exact f12
      rw [ek, e29, e206]
      exact ⟨Or.inr (Or.inr (Or.inl ⟨rfl, rfl⟩)), fun _ => by show 0 < 13; omega, fun z => absurd (by decide) z⟩
    · show (if 0 < M2 208 0 then 0 + 1 else 0 - 1) = 1
      rw [e206, if_pos (by decide)]
  have w : W0 M2 0 0 0 0 := ⟨mc0, mrg0, clR0, cdR0⟩
  obtain ⟨g1, g2, g3, g4, g5, g6⟩ := d31
  have rs : RS M2 Ja 0 0 0 32 (prF M2 0 0 f) := by
    refine RS_begin mc0 mrg0 clR0 h0 ?_ ?_ ?_ ?_ (fun h hh ww hw => ?_) (fun y hy => by omega) (fun k hk => ?_)
    · unfold siI tI at g1 ⊢
      rw [o2 (32 + 1) (by omega), o2 (32 + 3) (by omega), o2 (32 + 5) (by omega), o2 (32 + 7) (by omega)]
      exact g1
    · rw [o2 32 (by omega)]; exact g2
    · rw [o2 32 (by omega)]; exact g3
    · rw [o2 35 (by omega)]; exact g4
    · rw [o2 40 (by omega)]; exact g5 _
    · rw [hJ 41 (by omega)]; exact g6 k
  have cst : Cst (ab_i0 M3 220) := by
    refine ⟨?_, fun k hk => ?_, ?_, ?_, ?_, ?_⟩
    · unfold siI tI at d41 ⊢
      rw [o (42 + 1) (by omega), o (42 + 3) (by omega), o (42 + 5) (by omega), o (42 + 7) (by omega)]
      exact d41
    · have q := h54 k hk
      unfold siI tI at q ⊢
      rw [o (55 + 10 * k + 1) (by omega), o (55 + 10 * k + 3) (by omega), o (55 + 10 * k + 5) (by omega), o (55 + 10 * k + 7) (by omega)]
      exact q
    · unfold bI tI at hb ⊢
      rw [o 176 (by omega), o 178 (by omega)]
      exact hb
    · unfold tI at h182 ⊢
      rw [o 183 (by omega)]
      exact h182
    · unfold tP tI at h196 ⊢
      rw [o 198 (by omega), o 193 (by omega)]
      exact h196
    · have q := d3.1
      unfold clI tI at q ⊢
      rw [o (4 + 1) (by omega), o (4 + 3) (by omega), o (4 + 5) (by omega), o (4 + 7) (by omega), o (4 + 9) (by omega)]
      exact q
  have e198 : ∀ k, k ≠ 29 → ab_i0 M3 220 200 k = Ia 200 k := fun k hk => by rw [ab_i0_off _ (by omega), b2 k hk, l0 200 (by omega), c1 200 (by omega) (by omega) (by omega)]
  have jo : ∀ r, r ≠ 201 → r ≠ 220 → ab_j0 (jr Ja (prF M2 0 0 f)) 220 r = Ja r := fun r p q => by rw [ab_j0_off _ q, jr_off p]
  refine ⟨0, 0, 0, 0, prF M2 0 0 f, 0, 0, fun _ => f, fun _ => false, fun _ => f, W0_sam w (fun r h1 h2 => o3 r (by omega) (by omega) (by omega)) (fun r h1 h2 => o3 r (by omega) (by omega) (by omega)), ⟨RS_sam rs (fun r h1 h2 => o3 r (by omega) (by omega) (by omega)) (fun r h1 h2 => o3 r (by omega) (by omega) (by omega)) (jo _ (by omega) (by omega)), cst, ⟨by omega, by omega, ?_, ?_, fun k hk => by omega⟩, ?_, fun t ht hb => by cases hb⟩, ⟨?_, ⟨?_, fun k hk => by omega⟩, fun t ht => ⟨?_, fun hb => by cases hb⟩⟩, ⟨?_, ?_⟩, 0, by omega, ?_, ?_, fun k hk => by omega, ?_⟩
  · rw [o 52 (by omega)]; exact h2
  · rw [o 52 (by omega)]; exact h3
  · rw [o 52 (by omega)]; exact h4
  · rw [ab_j0_off _ (by omega)]; rfl
  · rw [ab_i0_off _ (by omega)]; exact b3
  · rw [ab_i0_off _ (by omega)]
    match t, ht with
    | 0, _ => exact b4
    | 1, _ => exact b5
  · rw [o3 213 (by omega) (by omega) (by omega), l0 213 (by omega), c1 213 (by omega) (by omega) (by omega)]; exact z4 213 (by omega) (by omega) 0
  · rw [o3 214 (by omega) (by omega) (by omega), l0 214 (by omega), c1 214 (by omega) (by omega) (by omega)]; exact z4 214 (by omega) (by omega) 0
  · rw [o 1 (by omega)]; exact r1
  · rw [e198 10 (by omega)]; exact z2 10 (by omega)
  · rw [o 1 (by omega), e198 17 (by omega), r3, z3]
set_option maxRecDepth 100000 in
theorem CLS_len : CLS.length = 200 := rfl
set_option maxRecDepth 100000 in
theorem S1_S0 : S1 ++ [(4, 1, [])] = S0 := rfl
set_option maxRecDepth 100000 in
theorem S1_len : S1.length = 220 := rfl

set_option maxRecDepth 100000 in
theorem law_start (Ln : Nat) (xs : Nat → Int32) : ∃ I J, dd_L_law Ln xs ([], fun _ _ => 0, fun _ _ => 0, 0) = bb_L_law_23 Ln xs ab_fu 0 200 220 0 (S0, I, J, 0) ∧ Inv I J := by
  have a0 := n_nw (P := []) (L := []) (I := fun _ _ => 0) (J := fun _ _ => 0) (s := 0) (n := 0) rfl (0, 11, [some none, some none, some none, some none, some none, some none, some none, some none, some none]) rfl (by omega)
  obtain ⟨I1, J1, b1, b2⟩ := Ini_11 (I := ab_i0 (fun _ _ => 0) 0) (J := ab_j0 (fun _ _ => 0) 0)
  have c1 := n_nw (P := CLS) (L := []) (I := I1) (J := J1) (s := 200) (n := 200) CLS_len MSH rfl (by omega)
  obtain ⟨Ia, Ja, d1, d2, d3⟩ := Ini_12 (I := ab_i0 I1 200) (J := ab_j0 J1 200) CLS_len (fun k => by rw [ab_i0_row])
  obtain ⟨M1, e1, e2, e3, e4, e5, e6⟩ := m_clear0_s (M := Ia) (J := Ja) (x := 0)
  obtain ⟨M2, f1, f2⟩ := m_liftsAll_s (M := M1) (J := Ja) (x := 0)
  have mc0 : mc M2 0 0 0 0 := ⟨⟨by rw [f2.2.1 0 (by omega)]; exact e6.1.1, by rw [f2.2.1 1 (by omega)]; exact e6.1.2.1, by rw [f2.2.1 2 (by omega)]; exact e6.1.2.2.1, by rw [f2.2.1 3 (by omega)]; exact e6.1.2.2.2⟩, by omega, by omega, by omega, by omega⟩
  obtain ⟨M3, f, g1, g2, g3, g4, g5, g6, g7⟩ := m_begins0_s (J := Ja) (x := 0) mc0
  have h1 := n_na (P := S1) (L := []) (I := M3) (J := jr Ja (prF M2 0 0 f)) (s := 220) (n := 220) (kd := 4) (k := 1) (v := 1) S1_len rfl (by omega) (li_n 1) (by omega)
  have eN : ∀ (S : List ab_Sh), S ++ ([] : List ab_Sh) = S := List.append_nil
  rw [eN] at c1 h1
  have sS : S1 ++ ([] ++ [(4, 1, [])]) = S0 := S1_S0
  rw [sS] at h1
  have hC : FCL (ab_i0 I1 200) (ab_j0 J1 200) := by
    have y : ∀ r, r < 200 → ab_i0 I1 200 r = I1 r := fun r hr => ab_i0_off _ (by omega)
    have z : ∀ r, r < 200 → ab_j0 J1 200 r = J1 r := fun r hr => ab_j0_off _ (by omega)
    obtain ⟨q1, q2, q3, q4, q5, q6, q7, q8, q9, q10⟩ := b2
    refine ⟨?_, ?_, ?_, ?_, ?_, ?_, fun i hi => ?_, ?_, ?_, ?_⟩
    · rw [y 1 (by omega)]; exact q1
    · unfold F1 clI tI at q2 ⊢
      rw [y (4 + 1) (by omega), y (4 + 3) (by omega), y (4 + 5) (by omega), y (4 + 7) (by omega), y (4 + 9) (by omega), y (4 + 2) (by omega), y (4 + 10) (by omega), y (4 + 11) (by omega), y (4 + 12) (by omega)]
      exact q2
    · unfold F1 clI tI at q3 ⊢
      rw [y (18 + 1) (by omega), y (18 + 3) (by omega), y (18 + 5) (by omega), y (18 + 7) (by omega), y (18 + 9) (by omega), y (18 + 2) (by omega), y (18 + 10) (by omega), y (18 + 11) (by omega), y (18 + 12) (by omega)]
      exact q3
    · unfold F8 siI tI at q4 ⊢
      rw [y (32 + 1) (by omega), y (32 + 3) (by omega), y (32 + 5) (by omega), y (32 + 7) (by omega), y 32 (by omega), y (32 + 8) (by omega), z (32 + 9) (by omega)]
      exact q4
    · unfold siI tI at q5 ⊢
      rw [y (42 + 1) (by omega), y (42 + 3) (by omega), y (42 + 5) (by omega), y (42 + 7) (by omega)]
      exact q5
    · rw [y 52 (by omega)]; exact q6
    · have q := q7 i hi
      unfold siI tI at q ⊢
      rw [y (55 + 10 * i + 1) (by omega), y (55 + 10 * i + 3) (by omega), y (55 + 10 * i + 5) (by omega), y (55 + 10 * i + 7) (by omega)]
      exact q
    · unfold bI tI at q8 ⊢
      rw [y 176 (by omega), y 178 (by omega)]; exact q8
    · unfold tI at q9 ⊢
      rw [y 183 (by omega)]; exact q9
    · unfold tP tI at q10 ⊢
      rw [y 198 (by omega), y 193 (by omega)]; exact q10
  refine ⟨ab_i0 M3 220, ab_j0 (jr Ja (prF M2 0 0 f)) 220, ?_, Inv_0 hC d2 (fun r hr => d3 r hr) e2 e6 f2 g2 g3 g4 g5 g6 g7⟩
  have init : dd_X12_init 200 (CLS ++ ([] ++ [MSH]), ab_i0 I1 200, ab_j0 J1 200, 0) = some ((), (S1, M3, jr Ja (prF M2 0 0 f), 0)) := by
    refine d1.trans ?_
    rw [e1, ob_s, m_rc_s, ob_s, f1, ob_s, m_rc_s, ob_s, g1, ob_s]
  unfold dd_L_law
  show (ab_nw (([] : List ab_Sh) ++ [], fun _ _ => 0, fun _ _ => 0, 0) (0, 11, [some none, some none, some none, some none, some none, some none, some none, some none, some none])).bind _ = _
  rw [a0, ob_s]
  show (dd_X11_init 0 ([] ++ [(0, 11, [some none, some none, some none, some none, some none, some none, some none, some none, some none])], ab_i0 (fun _ _ => 0) 0, ab_j0 (fun _ _ => 0) 0, 0)).bind _ = _
  rw [b1, ob_s]
  show (ab_nw (CLS, I1, J1, 0) MSH).bind _ = _
  rw [c1, ob_s]
  show (dd_X12_init 200 (CLS ++ ([] ++ [MSH]), ab_i0 I1 200, ab_j0 J1 200, 0)).bind _ = _
  rw [init, ob_s]
  show (ab_na (S1, M3, jr Ja (prF M2 0 0 f), 0) 4 1).bind _ = _
  rw [h1, ob_s]
end I0
