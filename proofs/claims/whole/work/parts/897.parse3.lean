/-! ===== parse ===== -/
section PC
variable {I I' I0 I1 I2 I3 I4 M M' M0 M1 M2 M3 Z : Nat → Nat → Int32} {J J' J1 J2 J3 J4 : Nat → Nat → Int64} {x x' : Nat} {NH NY NE NR N s u tp : Nat} {f g : Nat → Int64} {T : Nat → Int32} {H S : Nat → Nat → Int64} {b : Nat → Bool}
/-- the class after a good text -/
theorem c_good {m : Nat} (h17 : clI I1 18) (h31 : siI I1 32) (hm : I1 15 1 = nI m) (m8 : m ≤ 800) (hy : I1 7 3 = nI NY) (y6 : NY ≤ 6) : ∃ I2 I3 I4 J4, dd_X1_copyFrom 18 4 (S0, I1, J, x) = some ((), (S0, I2, J, x)) ∧ dd_X8_reset 32 18 (S0, I2, J, x) = some ((), (S0, I3, J4, x)) ∧ dd_X4_clear 52 (S0, I3, J4, x) = some ((), (S0, I4, J4, x)) ∧ CC I1 I4 m ∧ (∀ r, r < 19 ∨ (42 ≤ r ∧ r ≠ 52) → I4 r = I1 r) ∧ (∀ k, k ≠ 2 → k ≠ 4 → I4 52 k = I1 52 k) ∧ I4 52 2 = 0 ∧ I4 52 4 = 0 ∧ siI I4 32 ∧ I4 32 0 = 0 ∧ I4 32 1 = 0 ∧ I4 35 3 = 0 ∧ (∀ h, h < 8 → ∀ w, w < 2 → I4 40 (h * 2 + w) = 0) ∧ (∀ y, y < NY → I4 38 (y * 1 + 0) = prcS I4 18 y 0) ∧ (∀ r, r ≠ 41 → J4 r = J r) ∧ ∀ k, k < 6 → J4 41 k = 0 := by
  obtain ⟨I2, a1, a2, a3, a4, a5, a6, a7, a8, a9, a10, a11⟩ := c_copyCloud (J := J) (x := x) h17 hm m8
  have h31' : siI I2 32 := by
    unfold siI tI at h31 ⊢
    rw [a2 (32 + 1) (by omega), a2 (32 + 3) (by omega), a2 (32 + 5) (by omega), a2 (32 + 7) (by omega)]
    exact h31
  obtain ⟨I3, J3, b1, b2, b3, b4, b5, b6, b7, b8, b9, b10⟩ := c_reset (J := J) (x := x) h31' a3 (a4.2.1.trans hy) y6
  have off : ∀ r, r ≠ 52 → ab_u (ab_u I3 52 2 0) 52 4 0 r = I3 r := fun r hr => by rw [u_r hr, u_r hr]
  refine ⟨I2, I3, ab_u (ab_u I3 52 2 0) 52 4 0, J3, a1, b1, ?_, ?_, fun r hr => ?_, fun k p1 p2 => ?_, ?_, u_e, ?_, ?_, ?_, ?_, fun h hh w hw => ?_, fun y hy => ?_, b9, b10⟩
  · unfold dd_X4_clear
    rw [pI_X4_2 okH, ob_s, pI_X4_4 okH, ob_s]
  · have z : ∀ r, r < 32 → ab_u (ab_u I3 52 2 0) 52 4 0 r = I2 r := fun r hr => by rw [off r (by omega), b2 r (by omega)]
    unfold CC clI tI at *
    rw [z (18 + 1) (by omega), z (18 + 3) (by omega), z (18 + 5) (by omega), z (18 + 7) (by omega), z (18 + 9) (by omega), z 20 (by omega), z 22 (by omega), z 24 (by omega), z 26 (by omega), z 28 (by omega), z 29 (by omega), z 30 (by omega)]
    exact ⟨a3, a4, a5, a6, a7, a8, a9, a10, a11⟩
  · rw [off r (by omega), b2 r (by omega), a2 r (by omega)]
  · rw [u_k p2, u_k p1, b2 52 (by omega), a2 52 (by omega)]
  · rw [u_k (by omega), u_e]
  · unfold siI tI at b3 ⊢
    rw [off (32 + 1) (by omega), off (32 + 3) (by omega), off (32 + 5) (by omega), off (32 + 7) (by omega)]
    exact b3
  · rw [off 32 (by omega)]; exact b4
  · rw [off 32 (by omega)]; exact b5
  · rw [off 35 (by omega)]; exact b6
  · rw [off 40 (by omega)]; exact b7 h hh w hw
  · rw [off 38 (by omega), b8 y hy]
    unfold prcS gt gg
    rw [off (18 + 3 + 1) (by omega), off (18 + 9 + 1) (by omega), b2 (18 + 3 + 1) (by omega), b2 (18 + 9 + 1) (by omega)]
theorem q_parse (hi : Inv I J) (cd : Nat → Option Int32) (hcd : cd 2 = some 1) (a : Int32) : Cal (dd_X11_parse 0 a) (dd_X12_parse 200 a) cd I J x := by
  obtain ⟨NH, NY, NE, NR, f, u, tp, H, b, S, w, c, m, rd⟩ := id hi
  obtain ⟨n, n8, r1, r2, r3, r4⟩ := rd.2
  have thr : ∀ (hw : wi a.toInt64 0 (nI n).toInt64 = false), dd_X11_parse 0 a (S0, I, J, x) = bb_X11_parse_15 (S0, I, J, x) → Cal (dd_X11_parse 0 a) (dd_X12_parse 200 a) cd I J x := by
    intro hw hcl
    refine Cal_thr (v := 0) hi 2 1 hcd (by decide) hcl (fun J' hJ => ?_)
    have e10 : th I 0 200 10 = nI n := by rw [th_offk _ (by omega)]; exact r2
    unfold dd_X12_parse
    rw [m_P0, ob_s, m_F10, ob_s, e10, m_within, ob_s, hw]
    dsimp only
    rw [if_pos (show (if false = true then (1 : Int32) else 0) = 0 from rfl), bb_X12_parse_25, m_rc, ob_s, m_thr1 1 (by decide), ob_s, if_neg n10]
  by_cases h0 : a < 0
  · refine thr ?_ ?_
    · unfold wi
      have q : a.toInt64 < 0 := by
        show a.toInt64 < (0 : Int32).toInt64
        rw [j_lt]; exact h0
      simp [q]
    · unfold dd_X11_parse
      rw [if_pos h0]
  · by_cases h1 : a ≤ nI n
    · have i0 : inN a (n + 1) = true := by
        have p1 : ¬ a.toInt < 0 := by rw [Int32.lt_iff_toInt_lt] at h0; exact h0
        have p2 : a.toInt ≤ (n : Int) := by rw [Int32.le_iff_toInt_le, nI_toInt (by omega)] at h1; exact h1
        unfold inN
        simp
        omega
      obtain ⟨N, hN, rfl⟩ := inN_ex i0 (by omega)
      have hR : rgT (I 2) N := fun k hk => (r3 k (by omega)).2
      obtain ⟨cc, I1, a1, a2, a3, a4⟩ := L_parse (J := J) (x := x) c.2.1.2.2.2.2.2 (show N ≤ n by omega) n8 hR
      have run : dd_X11_parse 0 (nI N) (S0, I, J, x) = if cc = 0 then (dd_X1_copyFrom 18 4 (S0, I1, J, x)).bind fun q8 => (ab_fR q8.2 11 0 2).bind fun v9 => (ab_fR q8.2 11 0 1).bind fun v10 => (ab_rc q8.2 8 v9).bind fun _ => (dd_X8_reset v9 v10 q8.2).bind fun q11 => (ab_fR q11.2 11 0 4).bind fun v12 => (ab_rc q11.2 4 v12).bind fun _ => (dd_X4_clear v12 q11.2).bind fun q13 => some (.inl cc, q13.2) else some (.inl cc, (S0, I1, J, x)) := by
        unfold dd_X11_parse
        rw [if_neg h0, c_R0, ob_s, r_f1, ob_s, r1, if_pos h1, ob_s, r_rc, ob_s, a1, ob_s]
        dsimp only
        rw [c_R1, ob_s, c_R0, ob_s, r_s2, ob_s, d_rc, ob_s]
        rfl
      have off1 : ∀ r, 18 ≤ r → I1 r = I r := fun r hr => a2.1 r (by omega)
      by_cases hc : cc = 0
      · subst hc
        obtain ⟨mm, NY', m8, e14, y6, ey⟩ := a3 rfl
        have h17 : clI I1 18 := by
          have q := w.2.2.1.1
          unfold clI tI at q ⊢
          rw [off1 (18 + 1) (by omega), off1 (18 + 3) (by omega), off1 (18 + 5) (by omega), off1 (18 + 7) (by omega), off1 (18 + 9) (by omega)]
          exact q
        have h31 : siI I1 32 := by
          have q := c.1.1.1
          unfold siI tI at q ⊢
          rw [off1 (32 + 1) (by omega), off1 (32 + 3) (by omega), off1 (32 + 5) (by omega), off1 (32 + 7) (by omega)]
          exact q
        obtain ⟨I2, I3, I4, J4, b1, b2, b3, b4, b5, b6, b7, b8, b9, b10, b11, b12, b13, b14, b15, b16⟩ := c_good (J := J) (x := x) h17 h31 e14 m8 ey y6
        refine ⟨.inl 0, I4, J4, x, ?_, by omega, fun J' hJ => ?_⟩
        · rw [run, if_pos rfl, b1, ob_s, c_R2, ob_s, c_R1, ob_s, e_rc, ob_s, b2, ob_s, c_R4, ob_s, rc_X4 okH, ob_s, b3, ob_s]
        obtain ⟨M1, f1, f2, f3⟩ := a4 I4 J' x (by rw [b5 200 (by omega), off1 200 (by omega)]; exact r2) (fun k hk => by rw [b5 209 (by omega), off1 209 (by omega)]; exact (r3 k (by omega)).1.symm)
        rcases f3 with ⟨_, f3, f4⟩ | ⟨q, _⟩
        · obtain ⟨M2, g1, g2⟩ := m_liftsAll (M := M1) (J := J') (x := x)
          have z2 : ∀ r, r < 200 ∨ 209 ≤ r → M2 r = I4 r := fun r hr => by rw [g2.1 r (by omega), f1.1 r hr]
          obtain ⟨NH', NY2, NE', NR', w2, ey2⟩ := W0_new f4 e14 m8 b4 g2 (fun r h1 h2 => z2 r (by omega))
          have eY : NY2 = NY' := (nI_eq (by have := w2.1.2.2.1; omega) (by omega)).mp (ey2.symm.trans ey)
          subst eY
          obtain ⟨M3, f, k1, k2, k3, k4, k5, k6, k7⟩ := m_begins0 (J := J') (x := x) w2.1
          have z3 : ∀ r, r < 200 ∨ (209 ≤ r ∧ r ≠ 219) → M3 r = I4 r := fun r hr => by rw [k3 r (by omega) (by omega), z2 r (by omega)]
          have z41 : ∀ r, 42 ≤ r → r < 200 → r ≠ 52 → M3 r = I r := fun r h1 h2 h3 => by rw [z3 r (by omega), b5 r (by omega), off1 r (by omega)]
          have s2 : sam 201 207 M2 M3 := fun r h1 h2 => k3 r (by omega) (by omega)
          have rs : RS M2 J' NH' NY2 NE' 32 (prF M2 NH' NY2 f) := by
            refine RS_begin w2.1 w2.2.1 w2.2.2.1 k2 ?_ ?_ ?_ ?_ (fun h hh ww hw => ?_) (fun y hy => ?_) (fun k hk => ?_)
            · unfold siI tI at b9 ⊢
              rw [z2 (32 + 1) (by omega), z2 (32 + 3) (by omega), z2 (32 + 5) (by omega), z2 (32 + 7) (by omega)]
              exact b9
            · rw [z2 32 (by omega)]; exact b10
            · rw [z2 32 (by omega)]; exact b11
            · rw [z2 35 (by omega)]; exact b12
            · rw [z2 40 (by omega)]; exact b13 h hh ww hw
            · rw [z2 38 (by omega), b14 y hy]
              unfold prcS gt gg
              rw [z2 (18 + 3 + 1) (by omega), z2 (18 + 9 + 1) (by omega)]
            · rw [hJ 41 (by omega)]; exact b16 k hk
          have e51 : M3 52 = I4 52 := z3 52 (by omega)
          have cst : Cst M3 := by
            obtain ⟨t1, t2, t3, t4, t5, t6⟩ := c.2.1
            refine ⟨?_, fun k hk => ?_, ?_, ?_, ?_, ?_⟩
            · unfold siI tI at t1 ⊢
              rw [z41 (42 + 1) (by omega) (by omega) (by omega), z41 (42 + 3) (by omega) (by omega) (by omega), z41 (42 + 5) (by omega) (by omega) (by omega), z41 (42 + 7) (by omega) (by omega) (by omega)]
              exact t1
            · have q := t2 k hk
              unfold siI tI at q ⊢
              rw [z41 (55 + 10 * k + 1) (by omega) (by omega) (by omega), z41 (55 + 10 * k + 3) (by omega) (by omega) (by omega), z41 (55 + 10 * k + 5) (by omega) (by omega) (by omega), z41 (55 + 10 * k + 7) (by omega) (by omega) (by omega)]
              exact q
            · unfold bI tI at t3 ⊢
              rw [z41 176 (by omega) (by omega) (by omega), z41 178 (by omega) (by omega) (by omega)]
              exact t3
            · unfold tI at t4 ⊢
              rw [z41 183 (by omega) (by omega) (by omega)]
              exact t4
            · unfold tP tI at t5 ⊢
              rw [z41 198 (by omega) (by omega) (by omega), z41 193 (by omega) (by omega) (by omega)]
              exact t5
            · have q := a2.2.2
              unfold clI tI at q ⊢
              rw [z3 (4 + 1) (by omega), z3 (4 + 3) (by omega), z3 (4 + 5) (by omega), z3 (4 + 7) (by omega), z3 (4 + 9) (by omega), b5 (4 + 1) (by omega), b5 (4 + 3) (by omega), b5 (4 + 5) (by omega), b5 (4 + 7) (by omega), b5 (4 + 9) (by omega)]
              exact q
          refine ⟨0, M3, jr J' (prF M2 NH' NY2 f), ?_, ⟨NH', NY2, NE', NR', prF M2 NH' NY2 f, 0, tp, H, fun _ => false, S, W0_sam w2 (fun r h1 h2 => k3 r (by omega) (by omega)) (fun r h1 h2 => ?_), ⟨RS_sam rs (fun r h1 h2 => k3 r (by omega) (by omega)) s2 (jr_off (by omega)), cst, ⟨by omega, c.2.2.1.2.1, ?_, ?_, fun k hk => by omega⟩, ?_, fun t ht hb => by cases hb⟩, ⟨rfl, ⟨k5, fun k hk => by omega⟩, fun t ht => ⟨?_, fun hb => by cases hb⟩⟩, ⟨?_, ?_⟩, 0, by omega, ?_, ?_, fun k hk => by omega, ?_⟩, jr_off (by omega), ?_, rfl⟩
          · rw [f3, bb_X12_parse_110, if_neg n10, m_rc, ob_s, g1, ob_s, m_rc, ob_s, k1, ob_s]
          · exact k3 r (by omega) (by omega)
          · rw [e51]; exact b7
          · rw [e51, b6 3 (by omega) (by omega), off1 52 (by omega)]; exact c.2.2.1.2.2.2.1
          · rw [e51]; exact b8
          · match t, ht with
            | 0, _ => exact k6
            | 1, _ => exact k7
          · rw [z3 213 (by omega), b5 213 (by omega), off1 213 (by omega)]; exact rd.1.1
          · rw [z3 214 (by omega), b5 214 (by omega), off1 214 (by omega)]; exact rd.1.2
          · rw [z3 1 (by omega), b5 1 (by omega)]; exact a2.2.1
          · rw [k4 10 (by omega), g2.1 200 (by omega)]; exact f1.2.2.2.1
          · rw [z3 1 (by omega), b5 1 (by omega), k4 17 (by omega), g2.1 200 (by omega)]; exact f2
          · rw [k4 0 (by omega), g2.1 200 (by omega)]; exact f1.2.2.1
        · exact absurd rfl q
      · refine ⟨.inl cc, I1, J, x, by rw [run, if_neg hc], by omega, fun J' hJ => ?_⟩
        obtain ⟨M1, f1, f2, f3⟩ := a4 I1 J' x (by rw [off1 200 (by omega)]; exact r2) (fun k hk => by rw [off1 209 (by omega)]; exact (r3 k (by omega)).1.symm)
        rcases f3 with ⟨q, _⟩ | ⟨_, f3⟩
        · exact absurd q hc
        · exact ⟨cc, M1, J', f3, Inv_fail hi a2 f1 f2 hJ, rfl, f1.2.2.1, rfl⟩
    · refine thr ?_ ?_
      · unfold wi
        have q : (nI n).toInt64 < a.toInt64 := by
          rw [j_lt, Int32.lt_iff_toInt_lt]
          rw [Int32.le_iff_toInt_le] at h1
          omega
        simp [q]
      · unfold dd_X11_parse
        rw [if_neg h0, c_R0, ob_s, r_f1, ob_s, r1, if_neg h1]
end PC
