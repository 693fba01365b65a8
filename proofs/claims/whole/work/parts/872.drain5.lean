/-! ===== drain: the call ===== -/
section DR
variable {I I' I0 I1 I2 I3 I4 : Nat → Nat → Int32} {J J' J1 J2 J3 J4 : Nat → Nat → Int64} {x : Nat} {NH NY NE NR s d u tp u' tp' : Nat} {f g f' : Nat → Int64} {H S H' : Nat → Nat → Int64} {b : Nat → Bool}
theorem q_drain (hi : Inv I J) (cd : Nat → Option Int32) (hcd : cd 0 = some 1) (hcd1 : cd 1 = some 2) (a : Int32) : Cal (dd_X11_drain 0 a) (dd_X12_drain 200 a) cd I J x := by
  obtain ⟨NH, NY, NE, NR, f, u, tp, H, b, S, w, c, m, rd⟩ := id hi
  obtain ⟨hc, hg, hl, n, n8, d1, d2, d3⟩ := id w
  have h8 := hc.2.1
  have h6 := hc.2.2.1
  have h6e := hc.2.2.2.1
  have nr0 := c_need (I := I) (J := J) (x := x) cl17.2.1.1 hl.2.1.1 (show NH < 1000 by omega) a
  cases ha : inN a NH with
  | false =>
    refine Cal_thr (v := 0) hi 0 1 hcd (by decide) ?_ (fun J' hJ => ?_)
    · unfold dd_X11_drain
      rw [c_R1, ob_s, d_R0, ob_s, c_rc, ob_s, nr0, ob_s, ha]
      rfl
    · unfold dd_X12_drain
      rw [m_rc, ob_s, m_noHost hc, ob_s, ha]
      rfl
  | true =>
    obtain ⟨h, hh, rfl⟩ := inN_ex ha (by omega)
    rw [ha] at nr0
    simp only [if_true] at nr0
    have mt1 : ∀ (I1 : Nat → Nat → Int32) (J' : Nat → Nat → Int64) (x' : Nat), mc I1 NH NY NE NR → dd_X12_noHost 200 (nI h) (S0, I1, J', x') = some (0, (S0, th I1 0, J', x')) := by
      intro I1 J' x' h
      rw [m_noHost h, ha]
      rfl
    have eon : onS I 32 (nI h) = sets (onB' f h) := sr_on c.1.2.1.2.2.1 c.1.1 h8 (by omega)
    have hcn := cn_le (onB' f h) 12
    have e5 : (nI (cn (onB' f h) 12) ≤ 5) = (cn (onB' f h) 12 ≤ 5) := li_le (b := 5) (by omega) (by omega)
    have e5' : ((5 : Int32) < nI (cn (onB' f h) 12)) = (5 < cn (onB' f h) 12) := li_lt (a := 5) (by omega) (by omega)
    have e0 : (nI (cn (onB' f h) 12) = 0) = (cn (onB' f h) 12 = 0) := li_eq (b := 0) (by omega) (by omega)
    have chead : dd_X11_drain 0 (nI h) (S0, I, J, x) = if cn (onB' f h) 12 = 0 then some (.inr 1, (S0, I, J, x + 1)) else if cn (onB' f h) 12 ≤ 5 then
        ((dd_X2_plan 195 18 32 (nI h) (S0, I, J, x)).bind fun q10 =>
        if q10.1 = 0 then
          some (.inr 1, ab_xm q10.2)
        else
          (ab_fR q10.2 11 0 4).bind fun v11 =>
          (ab_fR q10.2 11 0 2).bind fun v12 =>
          (ab_rc q10.2 4 v11).bind fun _ =>
          (dd_X4_remember v11 v12 q10.2).bind fun q13 =>
          (ab_fR q13.2 11 0 8).bind fun v14 =>
          (ab_fR q13.2 11 0 1).bind fun v15 =>
          (ab_fR q13.2 11 0 2).bind fun v16 =>
          (ab_rc q13.2 2 v14).bind fun _ =>
          (dd_X2_carryOut v14 v15 v16 q13.2).bind fun q17 =>
          some (.inl (nI (cn (onB' f h) 12)), q17.2)) else some (.inr 1, (S0, I, J, x + 1)) := by
      unfold dd_X11_drain
      rw [c_R1, ob_s, d_R0, ob_s, c_rc, ob_s, nr0, ob_s]
      show ((ab_fR (S0, I, J, x) 11 0 2).bind _) = _
      rw [c_R2, ob_s, e_rc, ob_s, si_setOn si31 c.1.1.1, ob_s, eon, bc_sets, ob_s]
      simp only [e5, e0]
      by_cases q0 : cn (onB' f h) 12 = 0
      · rw [if_pos q0, if_pos q0]; rfl
      · rw [if_neg q0, if_neg q0]
        by_cases q2 : cn (onB' f h) 12 ≤ 5
        · rw [if_pos q2, if_pos q2, c_R8, ob_s, c_R1, ob_s, c_R2, ob_s, rc_X2 okD, ob_s]
        · rw [if_neg q2, if_neg q2]; rfl
    have mhead : ∀ (I1 : Nat → Nat → Int32) (J' : Nat → Nat → Int64) (x' : Nat), sam 201 207 I I1 → J' 201 = f → dd_X12_drain 200 (nI h) (S0, I1, J', x') = if cn (onB' f h) 12 = 0 then bb_X12_drain_39 200 (sets (onB' f h)) 200 (S0, th I1 0, J', x') else if 5 < cn (onB' f h) 12 then bb_X12_drain_39 200 (sets (onB' f h)) 200 (S0, th I1 0, J', x') else
        ((dd_X12_drains 30 200 (nI h) (sets (onB' f h)) 0 (S0, th I1 0, J', x')).bind fun q4 =>
        if q4.1 = 0 then bb_X12_drain_39 200 (sets (onB' f h)) 200 q4.2 else bb_X12_drain_44 200 (sets (onB' f h)) 200 (0 : Int32) q4.2) := by
      intro I1 J' x' hsm hf
      have oh : dd_X12_onHost 200 (nI h) (S0, th I1 0, J', x') = some (sets (onB' f h), (S0, th I1 0, J', x')) := by
        have q := @m_onHost (th I1 0) J' x' NH NY NE h (by rw [hf]; exact c.1.2.1.2.2.1) h8 (by omega)
        rw [hf] at q
        exact q
      unfold dd_X12_drain
      rw [m_rc, ob_s, mt1 I1 J' _ (mc_sam hc hsm), ob_s, if_pos rfl, m_rc, ob_s, oh, ob_s, bits_sets, ob_s]
      simp only [sets_0, e5']
      rw [m_rc, ob_s]
    have thr : ∀ (I1 : Nat → Nat → Int32) (J' : Nat → Nat → Int64) (x' : Nat), I1 200 0 = 0 → bb_X12_drain_39 200 (sets (onB' f h)) 200 (S0, I1, J', x') = some (0, (S0, th I1 2, J', x')) := by
      intro I1 J' x' h0
      have z := @m_thr1 I1 2 (by decide) J' x'
      rw [th_id h0] at z
      rw [bb_X12_drain_39, bb_X12_drain_44, m_rc, ob_s, z, ob_s]
      rfl
    by_cases hok : cn (onB' f h) 12 ≠ 0 ∧ cn (onB' f h) 12 ≤ 5
    · obtain ⟨q0, q2⟩ := hok
      obtain ⟨I1, e1, o1, m1, t1, b1⟩ := @c_plan I J x NH NY NE NR f hc hg hl c.1.2.1 c.1.1 c.2.1.2.2.2.2.1.1 h hh q2
      have kI : kp I I1 := kp_drain (kp_refl c.2.1) o1 t1
      have md : ∀ (I1 : Nat → Nat → Int32) (J' : Nat → Nat → Int64) (x' : Nat), sam 201 207 I I1 → J' 201 = f → ∃ I2, dd_X12_drains 30 200 (nI h) (sets (onB' f h)) 0 (S0, I1, J', x') = some (if (drF (onB' f h) (tyT I f) NH 12 (rmF I f h)).isSome then 1 else 0, (S0, I2, J', x')) ∧ (∀ r, r ≠ 215 → I2 r = I1 r) ∧ (∀ B, drF (onB' f h) (tyT I f) NH 12 (rmF I f h) = some B → ∀ i, i < 12 → onB' f h i = true → I2 215 i = nI (B i)) := by
        intro I1 J' x' s3 hf
        have z := @m_drainAll I1 J' x' NH NY NE NR f (mc_sam hc s3) (mrg_sam hg s3) (wff_sam c.1.2.1 s3) hf h hh
        rw [tyT_I (s3 204 (by omega) (by omega)), rmF_I (s3 203 (by omega) (by omega)) (s3 204 (by omega) (by omega))] at z
        exact z
      cases hd : drF (onB' f h) (tyT I f) NH 12 (rmF I f h) with
      | none =>
        rw [hd] at e1
        refine ⟨.inr 1, I1, J, x + 1, ?_, by omega, fun J' hJ => ?_⟩
        · rw [chead, if_neg q0, if_pos q2, e1, ob_s]
          rfl
        · have hf : J' 201 = f := (hJ 201 (by omega)).trans m.1
          obtain ⟨I2, e2, o2, b2⟩ := md (th I1 0) J' (x + 1) (fun r a e => (th_off _ (by omega)).trans (o1 r (by omega))) hf
          rw [hd] at e2
          refine ⟨0, th I2 2, J', ?_, Inv_kp hi (kp_th (kp_hi (kp_th kI 0) (fun r _ hr => o2 r (by omega))) 2) (fun r _ _ q => hJ r q), rfl, 2, hcd1, by decide, th_at _⟩
          rw [mhead I1 J' (x + 1) (fun r a e => o1 r (by omega)) hf, if_neg q0, if_neg (by omega), e2, ob_s]
          show bb_X12_drain_39 200 (sets (onB' f h)) 200 (S0, I2, J', x + 1) = _
          exact thr I2 J' (x + 1) (by rw [o2 200 (by omega), th_at])
      | some B =>
        rw [hd] at e1
        have vB := dr_vld 12 _ B (by omega) hd
        have cP : InvC I1 J NH NY NE f u tp H b S := InvC_kp c kI (fun _ _ _ => rfl)
        have mP : InvM I1 J f u H b S := InvM_cl m (by rw [o1 200 (by omega)]) (o1 219 (by omega)) rfl rfl rfl
        have wP : W0 I1 NH NY NE NR := W0_sam w (fun r a e => o1 r (by omega)) (fun r a e => o1 r (by omega))
        have rP : Rdr I1 := Rdr_sam rd (fun r a e => o1 r (by omega)) (o1 209 (by omega)) (by rw [o1 200 (by omega)]) (by rw [o1 200 (by omega)]) ⟨by rw [o1 213 (by omega)], by rw [o1 214 (by omega)]⟩
        obtain ⟨I2, J2, e2, c2, q2', k2⟩ := @c_remember I1 J x NH NY NE u tp f H S b h6 cP
        have s2 : sam 201 207 I I2 := fun r a e => (q2' r (by omega)).trans (o1 r (by omega))
        have hT : ∀ i, i < 12 → onB' f h i = true → ∀ w, w < 2 → 1 ≤ tyT I f i w := fun i hi hs w hw2 => (tN_is hg (ty_lt c.1.2.1.2.2.1 hi (onB'_is hs).1) hw2).2.1
        have cs : ∀ I' : Nat → Nat → Int32, sam 201 207 I I' → crS I' NH NY NE h (onB' f h) (tyT I f) B 12 f (rmF I f h) := fun I' s => ⟨c.1.2.1.2.2.1, rmR_I (s 203 (by omega) (by omega)) (s 204 (by omega) (by omega)) (rmF_rmR hg c.1.2.1 h), vB, fun j _ h2 h3 => ⟨(onB'_is h3).1, (onB'_is h3).2, fun w => by rw [tyT_I (s 204 (by omega) (by omega))]⟩⟩
        have i2 : ∀ r, r < 52 ∨ 155 ≤ r → r < 195 ∨ 200 ≤ r → I2 r = I r := fun r p q => (q2' r p).trans (o1 r q)
        obtain ⟨I3, J3, e3, o3, k3, r3⟩ := @c_carry I2 x NH NY NE NR (clR_sam hl (fun r a e => i2 r (by omega) (by omega)) s2) (mc_sam hc s2) (mrg_sam hg s2) h n (onB' f h) (tyT I f) B q2 hT n8 (by rw [i2 29 (by omega) (by omega)]; exact d1) (by rw [i2 30 (by omega) (by omega), i2 208 (by omega) (by omega)]; exact d3) (by unfold mvs at m1 ⊢; rw [q2' 195 (by omega), q2' 196 (by omega)]; exact m1) (fun i hi hs => by rw [q2' 197 (by omega)]; exact b1 B hd i hi hs) 12 ab_fu I2 J2 f (rmF I f h) (by omega) (ab_fu_big (by omega)) (fun _ _ _ => rfl) c2.1 (cs I2 s2)
        rw [cryF_I (s2 204 (by omega) (by omega)) (i2 208 (by omega) (by omega))] at r3
        refine ⟨.inl (nI (cn (onB' f h) 12)), I3, J3, x, ?_, by omega, fun J' hJ => ?_⟩
        · have e3' : dd_X2_carryOut 195 18 32 (S0, I2, J2, x) = some ((), (S0, I3, J3, x)) := e3
          rw [chead, if_neg q0, if_pos q2, e1, ob_s]
          show (if (1 : Int32) = 0 then _ else _) = _
          rw [if_neg n10, c_R4, ob_s, c_R2, ob_s, rc_X4 okH, ob_s, e2, ob_s, c_R8, ob_s, c_R1, ob_s, c_R2, ob_s, rc_X2 okD, ob_s, e3', ob_s]
        · have jm : ∀ r, 155 ≤ r → r ≠ 220 → J' r = J r := fun r a e => (hJ r e).trans ((k3 r (by omega)).trans (k2 r (by omega)))
          have hf : J' 201 = f := (jm 201 (by omega) (by omega)).trans m.1
          have i3 : ∀ r, 200 ≤ r → I3 r = I r := fun r a => (o3 r (by omega) (by omega)).trans (i2 r (by omega) (by omega))
          have i31 : ∀ r, 200 ≤ r → I3 r = I1 r := fun r a => (o3 r (by omega) (by omega)).trans (q2' r (by omega))
          obtain ⟨I4, e4, o4, b4⟩ := md (th I3 0) J' x (fun r a e => (th_off _ (by omega)).trans (i3 r (by omega))) hf
          rw [hd] at e4
          obtain ⟨I5, J5, e6, hf5, m5, j5, o5, n5, l5⟩ := @m_kept2 I1 I4 J J' x NH NY NE u tp f H S b cP mP (by rw [o4 200 (by omega), th_at]) (by rw [o4 200 (by omega), th_offk _ (by omega), i31 200 (by omega)]) (by rw [o4 219 (by omega), th_off _ (by omega), i31 219 (by omega)]) jm
          have i5 : ∀ r, 201 ≤ r → r ≠ 215 → I5 r = I r := fun r a e => (o5 r (by omega)).trans ((o4 r e).trans ((th_off _ (by omega)).trans (i3 r (by omega))))
          have s5 : sam 201 207 I I5 := fun r a e => i5 r a (by omega)
          have i29 : I5 30 = I 30 := (o5 30 (by omega)).trans ((o4 30 (by omega)).trans ((th_off _ (by omega)).trans ((o3 30 (by omega) (by omega)).trans (i2 30 (by omega) (by omega)))))
          obtain ⟨I6, e7, o6⟩ := @m_carry I5 J5 x NH NY NE NR (mc_sam hc s5) (mrg_sam hg s5) h n (onB' f h) (tyT I f) B hT n8 (by rw [i5 207 (by omega) (by omega)]; exact d2) (by rw [i29, i5 208 (by omega) (by omega)]; exact d3) (fun i hi hs => by rw [o5 215 (by omega)]; exact b4 B hd i hi hs) 12 ab_fu I5 f (rmF I f h) (by omega) (ab_fu_big (by omega)) (fun _ _ => rfl) (cs I5 s5)
          rw [← hf5, cryF_I (s5 204 (by omega) (by omega)) (i5 208 (by omega) (by omega))] at e7
          have z4 : I4 200 0 = 0 := by rw [o4 200 (by omega), th_at]
          refine ⟨nI (cn (onB' f h) 12), I6, jr J5 (cryF I (onB' f h) B n 12 f), ?_, Inv_chg2 wP rP c2 q2' o3 k3 r3 m5 (fun r hr => (j5 r hr).trans (hJ r (by omega))) (fun r a e => (o5 r a).trans ((o4 r (by omega)).trans (th_off _ a))) (fun k a e => by rw [n5 k e, o4 200 (by omega), th_offk _ a]) (fun r a e => o6 r e) (fun k a e => by rw [o6 200 (by omega)]), ?_, ?_, rfl⟩
          · have z := @m_thr0 I4 2 (by decide) J' x
            rw [th_id z4] at z
            have e7' : bb_X12_drain_59 ab_fu 200 (sets (onB' f h)) 0 (S0, I5, J5, x) = _ := e7
            rw [mhead I3 J' x (fun r a e => i3 r (by omega)) hf, if_neg q0, if_neg (by omega), e4, ob_s]
            show bb_X12_drain_44 200 (sets (onB' f h)) 200 0 (S0, I4, J', x) = _
            rw [bb_X12_drain_44, m_rc, ob_s, z, ob_s, if_pos rfl, m_rc, ob_s, e6, ob_s]
            exact e7'
          · rw [jr_off (by omega), l5]
          · rw [o6 200 (by omega), n5 0 (by omega)]; exact z4
    · refine Cal_thr (v := 0) hi 1 2 hcd1 (by decide) ?_ (fun J' hJ => ?_)
      · rw [chead]
        by_cases q0 : cn (onB' f h) 12 = 0
        · rw [if_pos q0]
        · rw [if_neg q0, if_neg (fun q2 => hok ⟨q0, q2⟩)]
      · have t39 := thr (th I 0) J' (x + 1) (th_at _)
        rw [th_th] at t39
        rw [mhead I J' (x + 1) sam_refl ((hJ 201 (by omega)).trans m.1), t39]
        by_cases q0 : cn (onB' f h) 12 = 0
        · rw [if_pos q0]
        · rw [if_neg q0, if_pos (Classical.byContradiction fun q2 => hok ⟨q0, by omega⟩)]
end DR
