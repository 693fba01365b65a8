/-! ===== drainTo ===== -/
section DT
variable {I I' I0 I1 I2 I3 I4 : Nat → Nat → Int32} {J J' J1 J2 J3 J4 : Nat → Nat → Int64} {x : Nat} {NH NY NE NR s d u tp u' tp' : Nat} {f g f' : Nat → Int64} {H S H' : Nat → Nat → Int64} {b : Nat → Bool}
theorem q_drainTo (hi : Inv I J) (cd : Nat → Option Int32) (hcd : cd 0 = some 1) (hcd1 : cd 1 = some 2) (a c2 : Int32) : Cal (dd_X11_drainTo 0 a c2) (dd_X12_drainTo 200 a c2) cd I J x := by
  obtain ⟨NH, NY, NE, NR, f, u, tp, H, b, S, w, c, m, rd⟩ := id hi
  obtain ⟨hc, hg, hl, hm⟩ := id w
  have h8 := hc.2.1
  have h6 := hc.2.2.1
  have hs : sr I NY 32 (J 201) := by rw [m.1]; exact c.1.1
  have nr0 := c_need (I := I) (J := J) (x := x) cl17.2.1.1 hl.2.1.1 (show NH < 1000 by omega) a
  have ni := c_inst (x := x) hs c2
  rw [m.1] at ni
  cases ha : inN a NH with
  | false =>
    refine Cal_thr (v := 0) hi 0 1 hcd (by decide) ?_ (fun J' hJ => ?_)
    · unfold dd_X11_drainTo
      rw [c_R1, ob_s, d_R0, ob_s, c_rc, ob_s, nr0, ob_s, ha]
      rfl
    · unfold dd_X12_drainTo
      rw [m_rc, ob_s, m_noHost hc, ob_s, ha]
      rfl
  | true =>
    obtain ⟨h, hh, rfl⟩ := inN_ex ha (by omega)
    rw [ha] at nr0
    simp only [if_true] at nr0
    have mt1 : ∀ (I1 : Nat → Nat → Int32) (J' : Nat → Nat → Int64) (x' : Nat), mc I1 NH NY NE NR → dd_X12_noHost 200 (nI h) (S0, I1, J', x') = some (0, (S0, th I1 0, J', x')) := by
      intro I1 J' x' h
      rw [m_noHost h, ha]
      rfl
    cases hb : inR f c2 with
    | false =>
      refine Cal_thr (v := 0) hi 0 1 hcd (by decide) ?_ (fun J' hJ => ?_)
      · unfold dd_X11_drainTo
        rw [c_R1, ob_s, d_R0, ob_s, c_rc, ob_s, nr0, ob_s]
        show ((ab_rc (S0, I, J, x) 11 0).bind _) = _
        rw [c_rc, ob_s, ni, ob_s, hb]
        rfl
      · unfold dd_X12_drainTo
        rw [m_rc, ob_s, mt1 I J' _ hc, ob_s, if_pos rfl, m_rc, ob_s, m_noInstance, ob_s, hJ 201 (by omega), m.1, hb, th_th]
        rfl
    | true =>
      have hb' := (Bool.and_eq_true _ _).mp hb
      obtain ⟨i, hi12, rfl⟩ := inN_ex hb'.1 (by omega)
      rw [nI_clamp (by omega)] at hb'
      have hrn := hb'.2
      rw [hb] at ni
      simp only [if_true] at ni
      have wi := c.1.2.1.2.2.1 i hi12 hrn
      have q := c.1.1.2.2.2.1 i hi12 hrn
      have hho : ho f i < NH := wi.2.2.1.2
      have eho : gi I 32 i 3 = nI (ho f i) := q.2.2.2.1.trans (isn_32 wi.2.2.1)
      have ehh : (nI (ho f i) = nI h) = (ho f i = h) := li_eq (by omega) (by omega)
      have eon : onS I 32 (nI h) = sets (onB' f h) := sr_on c.1.2.1.2.2.1 c.1.1 h8 (by omega)
      have hcn := cn_le (onB' f h) 12
      have e5 : (nI (cn (onB' f h) 12) ≤ 5) = (cn (onB' f h) 12 ≤ 5) := li_le (b := 5) (by omega) (by omega)
      have chead : dd_X11_drainTo 0 (nI h) (nI i) (S0, I, J, x) = if ho f i = h then (if cn (onB' f h) 12 ≤ 5 then
          ((dd_X2_plan 195 18 32 (nI h) (S0, I, J, x)).bind fun q14 =>
          if q14.1 = 0 then bb_X11_drainTo_99 (-1 : Int32) q14.2
          else
            (ab_fR q14.2 11 0 8).bind fun v15 =>
            (ab_rc q14.2 2 v15).bind fun _ =>
            (dd_X2_targetOf v15 (nI i) q14.2).bind fun q16 =>
            bb_X11_drainTo_99 q16.1 q16.2) else some (.inr 1, (S0, I, J, x + 1))) else some (.inr 1, (S0, I, J, x + 1)) := by
        unfold dd_X11_drainTo
        rw [c_R1, ob_s, d_R0, ob_s, c_rc, ob_s, nr0, ob_s]
        show ((ab_rc (S0, I, J, x) 11 0).bind _) = _
        rw [c_rc, ob_s, ni, ob_s]
        show ((ab_fR (S0, I, J, x) 11 0 2).bind _) = _
        rw [c_R2, ob_s, e_R2, ob_s, t_32, ob_s, si_get (s := 32) si31 c.1.1.1 rfl (li_n 3) hi12 (by omega), ob_s, eho]
        show (if nI (ho f i) = nI h then _ else _) = _
        simp only [ehh]
        by_cases q1 : ho f i = h
        · rw [if_pos q1, if_pos q1, c_R2, ob_s, e_rc, ob_s, si_setOn si31 c.1.1.1, ob_s, eon, bc_sets, ob_s]
          simp only [e5]
          by_cases q2 : cn (onB' f h) 12 ≤ 5
          · rw [if_pos q2, if_pos q2, c_R8, ob_s, c_R1, ob_s, c_R2, ob_s, rc_X2 okD, ob_s]
          · rw [if_neg q2, if_neg q2]; rfl
        · rw [if_neg q1, if_neg q1]; rfl
      have mhead : ∀ (I1 : Nat → Nat → Int32) (J' : Nat → Nat → Int64) (x' : Nat), sam 201 207 I I1 → J' 201 = f → dd_X12_drainTo 200 (nI h) (nI i) (S0, I1, J', x') = if ho f i = h then (if cn (onB' f h) 12 ≤ 5 then bb_X12_drainTo_46 200 (nI h) (nI i) (sets (onB' f h)) 200 0 (S0, th I1 0, J', x') else bb_X12_drainTo_41 200 (nI h) (nI i) (sets (onB' f h)) 200 (S0, th I1 0, J', x')) else bb_X12_drainTo_41 200 (nI h) (nI i) (sets (onB' f h)) 200 (S0, th I1 0, J', x') := by
        intro I1 J' x' hsm hf
        have oh : dd_X12_onHost 200 (nI h) (S0, th I1 0, J', x') = some (sets (onB' f h), (S0, th I1 0, J', x')) := by
          have q := @m_onHost (th I1 0) J' x' NH NY NE h (by rw [hf]; exact c.1.2.1.2.2.1) h8 (by omega)
          rw [hf] at q
          exact q
        have eo : onB' f h i = decide (ho f i = h) := by unfold onB'; rw [hrn]; rfl
        unfold dd_X12_drainTo
        rw [m_rc, ob_s, mt1 I1 J' _ (mc_sam hc hsm), ob_s, if_pos rfl, m_rc, ob_s, m_noInstance, ob_s, hf, hb, th_th]
        simp only [Bool.not_true, Bool.false_eq_true, if_false, if_true]
        rw [m_rc, ob_s, oh, ob_s, has_sets _ hi12, ob_s, eo]
        simp only [bo_if]
        by_cases q1 : ho f i = h
        · rw [if_neg (by simp [q1]), if_pos q1, bits_sets, ob_s]
          simp only [e5]
        · rw [if_pos (by simp [q1]), if_neg q1]
      by_cases hok : ho f i = h ∧ cn (onB' f h) 12 ≤ 5
      · obtain ⟨q1, q2⟩ := hok
        have hon : onB' f h i = true := by simp [onB', hrn, q1]
        obtain ⟨I1, e1, o1, m1, t1, b1⟩ := @c_plan I J x NH NY NE NR f hc hg hl c.1.2.1 c.1.1 c.2.1.2.2.2.2.1.1 h hh q2
        have s3 : sam 201 207 I (th I1 0) := fun r a e => (th_off _ (by omega)).trans (o1 r (by omega))
        have md : ∀ J' : Nat → Nat → Int64, (∀ r, r ≠ 220 → J' r = J r) → ∃ I2, dd_X12_drains 30 200 (nI h) (sets (onB' f h)) 0 (S0, th I1 0, J', x) = some (if (drF (onB' f h) (tyT I f) NH 12 (rmF I f h)).isSome then 1 else 0, (S0, I2, J', x)) ∧ (∀ r, r ≠ 215 → I2 r = th I1 0 r) ∧ (∀ B, drF (onB' f h) (tyT I f) NH 12 (rmF I f h) = some B → ∀ i, i < 12 → onB' f h i = true → I2 215 i = nI (B i)) := by
          intro J' hJ
          have z := @m_drainAll (th I1 0) J' x NH NY NE NR f (mc_sam hc s3) (mrg_sam hg s3) (wff_sam c.1.2.1 s3) ((hJ 201 (by omega)).trans m.1) h hh
          rw [tyT_I (s3 204 (by omega) (by omega)), rmF_I (s3 203 (by omega) (by omega)) (s3 204 (by omega) (by omega))] at z
          exact z
        have kI : ∀ I2 : Nat → Nat → Int32, (∀ r, r ≠ 215 → I2 r = th I1 0 r) → kp I I2 := fun I2 o2 => kp_hi (kp_th (kp_drain (kp_refl c.2.1) o1 t1) 0) (fun r _ hr => o2 r (by omega))
        cases hd : drF (onB' f h) (tyT I f) NH 12 (rmF I f h) with
        | none =>
          rw [hd] at e1
          refine ⟨.inl (-1), I1, J, x, ?_, by omega, fun J' hJ => ?_⟩
          · rw [chead, if_pos q1, if_pos q2, e1, ob_s]
            rfl
          · obtain ⟨I2, e2, o2, b2⟩ := md J' hJ
            rw [hd] at e2
            refine ⟨-1, I2, J', ?_, Inv_kp hi (kI I2 o2) (fun r _ _ q => hJ r q), rfl, by rw [o2 200 (by omega), th_at], rfl⟩
            rw [mhead I1 J' x (fun r a e => o1 r (by omega)) ((hJ 201 (by omega)).trans m.1), if_pos q1, if_pos q2, bb_X12_drainTo_46, m_rc, ob_s, m_thr0 2 (by decide), ob_s, if_pos rfl, m_rc, ob_s, e2, ob_s]
            rfl
        | some B =>
          rw [hd] at e1
          refine ⟨.inl (nI (B i)), I1, J, x, ?_, by omega, fun J' hJ => ?_⟩
          · rw [chead, if_pos q1, if_pos q2, e1, ob_s]
            show (if (1 : Int32) = 0 then _ else _) = _
            rw [if_neg n10, c_R8, ob_s, rc_X2 okD, ob_s, c_targetOf q2 m1 (fun i hi hs => b1 B hd i hi hs) hi12 hon, ob_s]
            rfl
          · obtain ⟨I2, e2, o2, b2⟩ := md J' hJ
            rw [hd] at e2
            refine ⟨nI (B i), I2, J', ?_, Inv_kp hi (kI I2 o2) (fun r _ _ q => hJ r q), rfl, by rw [o2 200 (by omega), th_at], rfl⟩
            rw [mhead I1 J' x (fun r a e => o1 r (by omega)) ((hJ 201 (by omega)).trans m.1), if_pos q1, if_pos q2, bb_X12_drainTo_46, m_rc, ob_s, m_thr0 2 (by decide), ob_s, if_pos rfl, m_rc, ob_s, e2, ob_s]
            show (if (1 : Int32) = 0 then _ else _) = _
            rw [if_neg n10, m_R26, ob_s, op_ld sh_213 rfl hi12 (by omega), ob_s, b2 B hd i hi12 hon]
            rfl
      · refine Cal_thr (v := 0) hi 1 2 hcd1 (by decide) ?_ (fun J' hJ => ?_)
        · rw [chead]
          by_cases q1 : ho f i = h
          · rw [if_pos q1, if_neg (fun q2 => hok ⟨q1, q2⟩)]
          · rw [if_neg q1]
        · have t41 : bb_X12_drainTo_41 200 (nI h) (nI i) (sets (onB' f h)) 200 (S0, th I 0, J', x + 1) = some (0, (S0, th I 2, J', x + 1)) := by
            rw [bb_X12_drainTo_41, bb_X12_drainTo_46, m_rc, ob_s, m_thr1 2 (by decide), ob_s]
            rfl
          rw [mhead I J' (x + 1) sam_refl ((hJ 201 (by omega)).trans m.1), t41]
          by_cases q1 : ho f i = h
          · rw [if_pos q1, if_neg (fun q2 => hok ⟨q1, q2⟩)]
          · rw [if_neg q1]
end DT
