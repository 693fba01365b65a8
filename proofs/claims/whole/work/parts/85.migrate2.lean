/-! ===== migrate ===== -/
section MJ
variable {I I' I0 I1 I2 I3 I4 : Nat → Nat → Int32} {J J' J1 J2 J3 J4 : Nat → Nat → Int64} {x : Nat} {NH NY NE NR s d u tp u' tp' : Nat} {f g f' : Nat → Int64} {H S H' : Nat → Nat → Int64} {b : Nat → Bool}
theorem q_migrate (hi : Inv I J) (cd : Nat → Option Int32) (hcd : cd 0 = some 1) (hcd1 : cd 1 = some 2) (a c2 : Int32) : Cal (dd_X11_migrate 0 a c2) (dd_X12_migrate 200 a c2) cd I J x := by
  obtain ⟨NH, NY, NE, NR, f, u, tp, H, b, S, w, c, m, rd⟩ := id hi
  obtain ⟨hc, hg, hl, n, n8, d1, d2, d3⟩ := id w
  have h8 := hc.2.1
  have h6 := hc.2.2.1
  have h6e := hc.2.2.2.1
  have hs : sr I NY 32 (J 201) := by rw [m.1]; exact c.1.1
  have ni := c_inst (x := x) hs a
  rw [m.1] at ni
  have nr0 := c_need (I := I) (J := J) (x := x) cl17.2.1.1 hl.2.1.1 (show NH < 1000 by omega) c2
  cases ha : inR f a with
  | false =>
    refine Cal_thr (v := 0) hi 0 1 hcd (by decide) ?_ (fun J' hJ => ?_)
    · unfold dd_X11_migrate
      rw [c_rc, ob_s, ni, ob_s, ha]
      rfl
    · unfold dd_X12_migrate
      rw [m_rc, ob_s, m_noInstance, ob_s, hJ 201 (by omega), m.1, ha]
      rfl
  | true =>
    have hb := (Bool.and_eq_true _ _).mp ha
    obtain ⟨i, hi12, rfl⟩ := inN_ex hb.1 (by omega)
    rw [nI_clamp (by omega)] at hb
    have hrn := hb.2
    have wi := c.1.2.1.2.2.1 i hi12 hrn
    rw [ha] at ni
    simp only [if_true] at ni
    cases hb2 : inN c2 NH with
    | false =>
      refine Cal_thr (v := 0) hi 0 1 hcd (by decide) ?_ (fun J' hJ => ?_)
      · unfold dd_X11_migrate
        rw [c_rc, ob_s, ni, ob_s]
        show ((ab_fR (S0, I, J, x) 11 0 1).bind _) = _
        rw [c_R1, ob_s, d_R0, ob_s, c_rc, ob_s, nr0, ob_s, hb2]
        rfl
      · unfold dd_X12_migrate
        rw [m_rc, ob_s, m_noInstance, ob_s, hJ 201 (by omega), m.1, ha]
        simp only [Bool.not_true, Bool.false_eq_true, if_false, if_true]
        rw [m_rc, ob_s, m_noHost (mc_sam hc (th_sam (by omega))), ob_s, hb2, th_th]
        rfl
    | true =>
      obtain ⟨h, hh, rfl⟩ := inN_ex hb2 (by omega)
      rw [hb2] at nr0
      simp only [if_true] at nr0
      have q := c.1.1.2.2.2.1 i hi12 hrn
      have hty : ty f i < NY := wi.2.1.2
      have ety : (vi f i 1).toInt32 = nI (ty f i) := isn_32 wi.2.1
      have hho : ho f i < NH := wi.2.2.1.2
      have eho : gi I 32 i 3 = nI (ho f i) := q.2.2.2.1.trans (isn_32 wi.2.2.1)
      have egt : gi I 32 i 1 = nI (ty f i) := q.2.1.trans ety
      have ehh : (nI (ho f i) = nI h) = (ho f i = h) := li_eq (by omega) (by omega)
      have efi := si_fits (J := J) (x := x) si31 c.1.1.1 cl17 hl.1 (y := ty f i) (h := h) rfl rfl (by omega) (by omega)
      rw [sr_fit hl c.1.1 hty hh h8] at efi
      have chead : dd_X11_migrate 0 (nI i) (nI h) (S0, I, J, x) = if ho f i = h then some (.inr 1, (S0, I, J, x + 1)) else if mfit I f (ty f i) h = false then some (.inr 1, (S0, I, J, x + 1)) else
          ((dd_X4_remember 52 32 (S0, I, J, x)).bind fun q16 =>
          (ab_fR q16.2 11 0 2).bind fun v17 =>
          (ab_fR q16.2 11 0 1).bind fun v18 =>
          (ab_rc q16.2 8 v17).bind fun _ =>
          (dd_X8_moveTo v17 v18 (nI i) (nI h) q16.2).bind fun q19 =>
          some (.inl q19.1, q19.2)) := by
        unfold dd_X11_migrate
        rw [c_rc, ob_s, ni, ob_s]
        show ((ab_fR (S0, I, J, x) 11 0 1).bind _) = _
        rw [c_R1, ob_s, d_R0, ob_s, c_rc, ob_s, nr0, ob_s]
        show ((ab_fR (S0, I, J, x) 11 0 2).bind _) = _
        rw [c_R2, ob_s, e_R2, ob_s, t_32, ob_s, si_get (s := 32) si31 c.1.1.1 rfl (li_n 3) hi12 (by omega), ob_s, eho]
        show (if nI (ho f i) = nI h then _ else _) = _
        simp only [ehh]
        by_cases q1 : ho f i = h
        · rw [if_pos q1, if_pos q1]; rfl
        · rw [if_neg q1, if_neg q1, c_R2, ob_s, c_R1, ob_s, ob_s, e_R2, ob_s, t_32, ob_s, si_get (s := 32) si31 c.1.1.1 rfl (li_n 1) hi12 (by omega), ob_s, egt, e_rc, ob_s, efi, ob_s]
          simp only [bo_if]
          cases mfit I f (ty f i) h with
          | false => rfl
          | true =>
            simp only [Bool.true_eq_false, if_false]
            rw [c_R4, ob_s, c_R2, ob_s, rc_X4 okH, ob_s]
      have mhead : ∀ (I1 : Nat → Nat → Int32) (J' : Nat → Nat → Int64) (x' : Nat), sam 201 207 I I1 → J' 201 = f → dd_X12_migrate 200 (nI i) (nI h) (S0, I1, J', x') = if ho f i = h then bb_X12_migrate_40 200 (nI i) (nI h) 200 (S0, th I1 0, J', x') else if mfit I f (ty f i) h = false then bb_X12_migrate_40 200 (nI i) (nI h) 200 (S0, th I1 0, J', x') else bb_X12_migrate_45 200 (nI i) (nI h) 200 0 (S0, th I1 0, J', x') := by
        intro I1 J' x' hsm hf
        have s3 : sam 201 207 I (th I1 0) := sam_trans hsm (th_sam (by omega))
        have ft := @m_fits (th I1 0) J' x' NH NY NE (ty f i) h (by rw [hf]; exact c.1.2.1.2.2.1) h8 h6 (by omega) (by omega)
        rw [hf, mfit_I (s3 203 (by omega) (by omega)) (s3 204 (by omega) (by omega))] at ft
        have io := @m_isOn (th I1 0) J' x' NH NY NE i h (by rw [hf]; exact c.1.2.1.2.2.1) h8 hi12 (by omega)
        rw [hf, hrn] at io
        simp only [true_and] at io
        unfold dd_X12_migrate
        rw [m_rc, ob_s, m_noInstance, ob_s, hf, ha]
        simp only [Bool.not_true, Bool.false_eq_true, if_false, if_true]
        rw [m_rc, ob_s, m_noHost (mc_sam hc s3), ob_s, hb2, th_th]
        simp only [Bool.not_true, Bool.false_eq_true, if_false, if_true]
        rw [m_rc, ob_s, io, ob_s]
        by_cases q1 : ho f i = h
        · rw [if_pos q1, if_pos q1, if_neg n10]
        · rw [if_neg q1, if_neg q1, if_pos rfl, m_rc, ob_s, m_its1 hi12, ob_s, hf, ety, m_rc, ob_s, ft, ob_s]
          simp only [bo_if]
      by_cases hok : ho f i ≠ h ∧ mfit I f (ty f i) h = true
      · obtain ⟨I1, J1, e1, c1, q1, k1⟩ := @c_remember I J x NH NY NE u tp f H S b h6 c
        have s1 : sam 201 207 I I1 := fun r a b => q1 r (by omega)
        have hl1 : clR I1 NH NY NE NR := clR_sam hl (fun r a b => q1 r (by omega)) s1
        have ft1 : mfit I1 f (ty f i) h = true := by rw [mfit_I (s1 203 (by omega) (by omega)) (s1 204 (by omega) (by omega))]; exact hok.2
        obtain ⟨I2, J2, e2, o2, k2, r2⟩ := @c_moveTo I1 J1 x NH NY NE NR f hl1 (mc_sam hc s1) (mrg_sam hg s1) c1.1 i h n hi12 hrn hh hok.1 ft1 n8 (by rw [q1 29 (by omega)]; exact d1) (by rw [q1 30 (by omega), q1 208 (by omega)]; exact d3)
        rw [cstF_I (q1 204 (by omega)) (q1 208 (by omega))] at e2 r2
        refine ⟨.inl (cstF I f i n), I2, J2, x, ?_, by omega, fun J' hJ => ?_⟩
        · rw [chead, if_neg hok.1, if_neg (by rw [hok.2]; decide), e1, ob_s, c_R2, ob_s, c_R1, ob_s, e_rc, ob_s, e2, ob_s]
        · have jm : ∀ r, 155 ≤ r → r ≠ 220 → J' r = J r := fun r a b => (hJ r b).trans ((k2 r (by omega)).trans (k1 r (by omega)))
          have ee2 : ∀ r, 155 ≤ r → I2 r = I r := fun r a => (o2 r (by omega) (by omega)).trans (q1 r (by omega))
          have hf : J' 201 = f := (jm 201 (by omega) (by omega)).trans m.1
          obtain ⟨I3, J3, e3, hf3, m3, s3, j3, o3, n3, z3, l3⟩ := @m_kept I I2 J J' x NH NY NE u tp f H S b c m (fun r a _ => ee2 r a) jm
          have e29 : I3 30 = I 30 := (o3 30 (by omega)).trans ((o2 30 (by omega) (by omega)).trans (q1 30 (by omega)))
          obtain ⟨I4, e4, o4⟩ := @m_moves I3 J3 x NH NY NE f h6 h6e c.1.2.1.2.2.1 i h n hi12 hrn n8 (by rw [s3 207 (by omega) (by omega)]; exact d2) (by rw [e29, s3 208 (by omega) (by omega)]; exact d3)
          rw [← hf3, cstF_I (s3 204 (by omega) (by omega)) (s3 208 (by omega) (by omega))] at e4
          refine ⟨cstF I f i n, I4, jr J3 (mvF f i h (cstF I f i n)), ?_, Inv_chg w rd c1 q1 o2 k2 r2 m3 (fun r hr => (j3 r hr).trans (hJ r (by omega))) o3 n3 (fun r a e => o4 r e) (fun k a e => by rw [o4 200 (by omega)]), ?_, by rw [o4 200 (by omega)]; exact z3, rfl⟩
          · rw [mhead I2 J' x (fun r a e => ee2 r (by omega)) hf, if_neg hok.1, if_neg (by rw [hok.2]; decide), bb_X12_migrate_45, m_rc, ob_s, m_thr0 2 (by decide), ob_s, if_pos rfl, m_rc, ob_s, e3, ob_s, m_rc, ob_s, e4, ob_s]
          · rw [jr_off (by omega), l3]
      · refine Cal_thr (v := 0) hi 1 2 hcd1 (by decide) ?_ (fun J' hJ => ?_)
        · rw [chead]
          by_cases q1 : ho f i = h
          · rw [if_pos q1]
          · have q2 : mfit I f (ty f i) h = false := by
              cases hq : mfit I f (ty f i) h with
              | false => rfl
              | true => exact absurd ⟨q1, hq⟩ hok
            rw [if_neg q1, if_pos q2]
        · have t40 : bb_X12_migrate_40 200 (nI i) (nI h) 200 (S0, th I 0, J', x + 1) = some (0, (S0, th I 2, J', x + 1)) := by
            rw [bb_X12_migrate_40, bb_X12_migrate_45, m_rc, ob_s, m_thr1 2 (by decide), ob_s]
            rfl
          rw [mhead I J' (x + 1) sam_refl ((hJ 201 (by omega)).trans m.1), t40]
          by_cases q1 : ho f i = h
          · rw [if_pos q1]
          · have q2 : mfit I f (ty f i) h = false := by
              cases hq : mfit I f (ty f i) h with
              | false => rfl
              | true => exact absurd ⟨q1, hq⟩ hok
            rw [if_neg q1, if_pos q2]
end MJ
