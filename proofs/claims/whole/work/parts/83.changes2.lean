/-! ===== stop, evict, migrate ===== -/
section CI
variable {I I' I0 I1 I2 I3 I4 : Nat → Nat → Int32} {J J' J1 J2 J3 J4 : Nat → Nat → Int64} {x : Nat} {NH NY NE NR s d u tp u' tp' : Nat} {f g f' : Nat → Int64} {H S H' : Nat → Nat → Int64} {b : Nat → Bool}
/-- what the model has after keeping -/
theorem m_kept (c : InvC I J NH NY NE f u tp H b S) (m : InvM I J f u H b S) (e2 : ∀ r, 155 ≤ r → r ≠ 210 → I2 r = I r) (jm : ∀ r, 155 ≤ r → r ≠ 220 → J' r = J r) :
    ∃ I3 J3, dd_X12_keeps 200 (S0, th I2 0, J', x) = some ((), (S0, I3, J3, x)) ∧ J3 = jr J3 f ∧ InvM I3 J3 f (min (u + 1) 10) (cns f H) b S ∧ sam 201 209 I I3 ∧ (∀ r, r < 200 → J3 r = J' r) ∧ (∀ r, r ≠ 200 → I3 r = I2 r) ∧ (∀ k, k ≠ 0 → k ≠ 29 → I3 200 k = I2 200 k) ∧ I3 200 0 = 0 ∧ J3 220 = J' 220 := by
  have m2 : InvM (th I2 0) J' f u H b S := InvM_cl m (by rw [th_offk _ (by omega), e2 200 (by omega) (by omega)]) (by rw [th_off _ (by omega), e2 219 (by omega) (by omega)]) (jm 201 (by omega) (by omega)) (jm 217 (by omega) (by omega)) (jm 218 (by omega) (by omega))
  obtain ⟨I3, J3, e3, m3, o3, ok3, k3⟩ := @m_keeps (th I2 0) J' x u f H S b m2 c.2.2.1.1
  have hf3 : J3 = jr J3 f := by
    have := jr_id J3
    rw [m3.1] at this
    exact this.symm
  refine ⟨I3, J3, e3, hf3, m3, fun r q1 q2 => (o3 r (by omega)).trans ((th_off _ (by omega)).trans (e2 r (by omega) (by omega))), fun r hr => k3 r (by omega), fun r hr => (o3 r hr).trans (th_off _ hr), fun k q1 q2 => (ok3 k q2).trans (th_offk _ q1), ?_, k3 220 (by omega)⟩
  rw [ok3 0 (by omega), th_at]
theorem q_stop (hi : Inv I J) (cd : Nat → Option Int32) (hcd : cd 0 = some 1) (a : Int32) : Cal (dd_X11_stop 0 a) (dd_X12_stop 200 a) cd I J x := by
  obtain ⟨NH, NY, NE, NR, f, u, tp, H, b, S, w, c, m, rd⟩ := id hi
  obtain ⟨hc, hg, hl, hm⟩ := id w
  have h8 := hc.2.1
  have h6 := hc.2.2.1
  have hs : sr I NY 32 (J 201) := by rw [m.1]; exact c.1.1
  have ni := c_inst (x := x) hs a
  rw [m.1] at ni
  cases ha : inR f a with
  | false =>
    refine Cal_thr (v := 0) hi 0 1 hcd (by decide) ?_ (fun J' hJ => ?_)
    · unfold dd_X11_stop
      rw [c_rc, ob_s, ni, ob_s, ha]
      rfl
    · unfold dd_X12_stop
      rw [m_rc, ob_s, m_noInstance, ob_s, hJ 201 (by omega), m.1, ha]
      rfl
  | true =>
    have hb := (Bool.and_eq_true _ _).mp ha
    obtain ⟨i, hi12, rfl⟩ := inN_ex hb.1 (by omega)
    rw [nI_clamp (by omega)] at hb
    have hrn := hb.2
    have wi := c.1.2.1.2.2.1 i hi12 hrn
    obtain ⟨I1, J1, e1, c1, q1, k1⟩ := @c_remember I J x NH NY NE u tp f H S b h6 c
    have s1 : sam 201 207 I I1 := fun r a b => q1 r (by omega)
    have hl1 : clR I1 NH NY NE NR := clR_sam hl (fun r a b => q1 r (by omega)) s1
    have q := c1.1.1.2.2.2.1 i hi12 hrn
    have hty : ty f i < 6 := by have := wi.2.1.2; unfold ty; omega
    have hho : ho f i < 8 := by have := wi.2.2.1.2; unfold ho; omega
    have ey : gi I1 32 i 1 = nI (ty f i) := q.2.1.trans (isn_32 wi.2.1)
    have eh : gi I1 32 i 3 = nI (ho f i) := q.2.2.2.1.trans (isn_32 wi.2.2.1)
    have ed := @si_end I1 J1 x 32 si31 (by omega) c1.1.1.1 hl1.1 i (ty f i) (ho f i) hi12 ey hty eh hho
    have sr2 := sr_end hl1 (mc_sam hc s1) c.1.2.1.2.2.1 c1.1.1 (by omega) (by omega) hi12 hrn
    have ol : onl 32 I1 (ab_u (ldU I1 32 (ho f i) (-1 * gt I1 18 (ty f i) 0) (-1 * gt I1 18 (ty f i) 1)) 32 1 (I1 32 1 &&& (((1 : Int32) <<< (nI i &&& 31)) ^^^ (-1)))) := onl_u (onl_ldU _ 0 _ _ (onl_refl 32 I1)) (by omega) (by omega)
    generalize ab_u (ldU I1 32 (ho f i) (-1 * gt I1 18 (ty f i) 0) (-1 * gt I1 18 (ty f i) 1)) 32 1 (I1 32 1 &&& (((1 : Int32) <<< (nI i &&& 31)) ^^^ (-1))) = I2 at ed sr2 ol
    have o12 : sam 201 207 I I2 := fun r a b => (ol r (by omega)).trans (s1 r a b)
    have wf2 := wff_end hg h6 c.1.2.1 hi12
    have hoi : oi i f (fu f (14 + 6 * i + 0) (-1)) := oi_fu (oi_refl i f) (by omega)
    have r2 : RS I2 J1 NH NY NE 32 (fu f (14 + 6 * i + 0) (-1)) := ⟨sr2, wff_sam wf2 o12, fun k hk => by rw [hoi (8 + k) (by omega)]; exact c1.1.2.2.1 k hk, by rw [hoi 0 (by omega)]; exact c.1.2.2.2⟩
    refine ⟨.inl (nI (ho f i)), I2, J1, x, ?_, by omega, fun J' hJ => ?_⟩
    · unfold dd_X11_stop
      rw [c_rc, ob_s, ni, ob_s, ha]
      simp only [if_true]
      rw [c_R4, ob_s, c_R2, ob_s, rc_X4 okH, ob_s, e1, ob_s, c_R2, ob_s, e_R2, ob_s, t_32, ob_s, si_get (s := 32) si31 c1.1.1.1 rfl (li_n 3) hi12 (by omega), ob_s, c_R2, ob_s, c_R1, ob_s, e_rc, ob_s, ed, ob_s, eh]
    · have jm : ∀ r, 155 ≤ r → r ≠ 220 → J' r = J r := fun r a b => (hJ r b).trans (k1 r (by omega))
      have e2 : ∀ r, 155 ≤ r → I2 r = I r := fun r a => (ol r (by omega)).trans (q1 r (by omega))
      have hf : J' 201 = f := (jm 201 (by omega) (by omega)).trans m.1
      obtain ⟨I3, J3, e3, hf3, m3, s3, j3, o3, n3, z3, l3⟩ := @m_kept I I2 J J' x NH NY NE u tp f H S b c m (fun r a _ => e2 r a) jm
      refine ⟨nI (ho f i), I3, jr J3 (fu f (14 + 6 * i + 0) (-1)), ?_, Inv_chg w rd c1 q1 (row31_onl ol) (fun _ _ => rfl) r2 m3 (fun r hr => (j3 r hr).trans (hJ r (by omega))) o3 n3 (fun _ _ _ => rfl) (fun _ _ _ => rfl), ?_, z3, rfl⟩
      · unfold dd_X12_stop
        have ev2 : vi (fu f (14 + 6 * i + 0) (-1)) i 2 = vi f i 2 := fu_n (by omega)
        rw [m_rc, ob_s, m_noInstance, ob_s, hf, ha]
        simp only [Bool.not_true, Bool.false_eq_true, if_false, if_true]
        rw [m_rc, ob_s, e3, ob_s, hf3, m_R1, ob_s, m_of0, ob_s, m_snowJ _ (by omega), ob_s, m_rc, ob_s, m_its2J hi12, ob_s, ev2, isn_32 wi.2.2.1, jr_jr]
        rfl
      · rw [jr_off (by omega), l3]
theorem q_evict (hi : Inv I J) (cd : Nat → Option Int32) (hcd : cd 0 = some 1) (hcd1 : cd 1 = some 2) (a : Int32) : Cal (dd_X11_evict 0 a) (dd_X12_evict 200 a) cd I J x := by
  obtain ⟨NH, NY, NE, NR, f, u, tp, H, b, S, w, c, m, rd⟩ := id hi
  obtain ⟨hc, hg, hl, hm⟩ := id w
  have h8 := hc.2.1
  have h6 := hc.2.2.1
  have hs : sr I NY 32 (J 201) := by rw [m.1]; exact c.1.1
  have ni := c_inst (x := x) hs a
  rw [m.1] at ni
  cases ha : inR f a with
  | false =>
    refine Cal_thr (v := 0) hi 0 1 hcd (by decide) ?_ (fun J' hJ => ?_)
    · unfold dd_X11_evict
      rw [c_rc, ob_s, ni, ob_s, ha]
      rfl
    · unfold dd_X12_evict
      rw [m_rc, ob_s, m_noInstance, ob_s, hJ 201 (by omega), m.1, ha]
      rfl
  | true =>
    have hb := (Bool.and_eq_true _ _).mp ha
    obtain ⟨i, hi12, rfl⟩ := inN_ex hb.1 (by omega)
    rw [nI_clamp (by omega)] at hb
    have hrn := hb.2
    have wi := c.1.2.1.2.2.1 i hi12 hrn
    have q := c.1.1.2.2.2.1 i hi12 hrn
    have eb : gi I 32 i 2 = mbd f i := q.2.2.1
    have en : gi I 32 i 4 = mnt f i := q.2.2.2.2.1
    have mhead : ∀ (I1 : Nat → Nat → Int32) (J' : Nat → Nat → Int64) (x' : Nat), J' 201 = f → dd_X12_evict 200 (nI i) (S0, I1, J', x') = if mbd f i = -1 then bb_X12_evict_29 200 (nI i) 200 (S0, th I1 0, J', x') else if mnt f i = -1 then bb_X12_evict_34 200 (nI i) 200 0 (S0, th I1 0, J', x') else bb_X12_evict_29 200 (nI i) 200 (S0, th I1 0, J', x') := by
      intro I1 J' x' hf
      unfold dd_X12_evict
      rw [m_rc, ob_s, m_noInstance, ob_s, hf, ha]
      simp only [Bool.not_true, Bool.false_eq_true, if_false, if_true]
      rw [m_rc, ob_s, m_its3 hi12, ob_s, m_rc, ob_s, m_its4 hi12, ob_s, hf]
      rfl
    have chead : dd_X11_evict 0 (nI i) (S0, I, J, x) = if mbd f i = -1 then some (.inr 1, (S0, I, J, x + 1)) else if mnt f i = -1 then
        ((dd_X4_remember 52 32 (S0, I, J, x)).bind fun q10 =>
        (ab_fR q10.2 11 0 2).bind fun v11 =>
        (ab_fR q10.2 11 0 1).bind fun v12 =>
        (ab_rc q10.2 8 v11).bind fun _ =>
        (dd_X8_giveNotice v11 v12 (nI i) q10.2).bind fun q13 =>
        (ab_fR q13.2 11 0 2).bind fun v14 =>
        (ab_fR q13.2 8 v14 2).bind fun v15 =>
        (ab_rc q13.2 10 v15).bind fun _ =>
        (dd_X10_get v15 (nI i) (4 : Int32) q13.2).bind fun q16 =>
        some (.inl q16.1, q16.2)) else some (.inr 1, (S0, I, J, x + 1)) := by
      unfold dd_X11_evict
      rw [c_rc, ob_s, ni, ob_s, ha]
      simp only [if_true]
      rw [c_R2, ob_s, e_R2, ob_s, t_32, ob_s, si_get (s := 32) si31 c.1.1.1 rfl (li_n 2) hi12 (by omega), ob_s, c_R2, ob_s, e_R2, ob_s, t_32, ob_s, si_get (s := 32) si31 c.1.1.1 rfl (li_n 4) hi12 (by omega), ob_s, eb, en, c_R4, ob_s, c_R2, ob_s, rc_X4 okH, ob_s]
      rfl
    by_cases hok : mbd f i ≠ -1 ∧ mnt f i = -1
    · obtain ⟨I1, J1, e1, c1, q1, k1⟩ := @c_remember I J x NH NY NE u tp f H S b h6 c
      have s1 : sam 201 207 I I1 := fun r a b => q1 r (by omega)
      have hl1 : clR I1 NH NY NE NR := clR_sam hl (fun r a b => q1 r (by omega)) s1
      have gv := @si_give I1 J1 x 32 si31 c1.1.1.1 hl1.1 i hi12
      have ecl : I1 32 0 + gg I1 18 1 = clk f + I 202 5 := by rw [c1.1.1.2.1, hl1.2.2.2.2.2.2.2.2.1, s1 202 (by omega) (by omega)]
      rw [ecl] at gv
      have sr2 := sr_notice (mc_sam hc s1) c1.1.1 (by omega) (by omega) hi12 (clk f + I 202 5)
      have ol : onl 32 I1 (ab_u I1 (32 + 1 + 1) (i * 6 + 4) (clk f + I 202 5)) := onl_u (onl_refl 32 I1) (by omega) (by omega)
      have g4 : gi (ab_u I1 (32 + 1 + 1) (i * 6 + 4) (clk f + I 202 5)) 32 i 4 = clk f + I 202 5 := u_e
      generalize ab_u I1 (32 + 1 + 1) (i * 6 + 4) (clk f + I 202 5) = I2 at gv sr2 ol g4
      have o12 : sam 201 207 I I2 := fun r a b => (ol r (by omega)).trans (s1 r a b)
      have hoi : oi i f (fu f (14 + 6 * i + 4) (clk f + I 202 5).toInt64) := oi_fu (oi_refl i f) (by omega)
      have hont : ont f (fu f (14 + 6 * i + 4) (clk f + I 202 5).toInt64) := fun k hk => fu_n (hk i hi12)
      have hw3 : wfs NH NY NE (fu f (14 + 6 * i + 4) (clk f + I 202 5).toInt64) := fun j hj hr => by
        rw [ont_rn hont hj] at hr
        have q := c.1.2.1.2.2.1 j hj hr
        have h4 : isI (vi (fu f (14 + 6 * i + 4) (clk f + I 202 5).toInt64) j 4) := by
          by_cases e : j = i
          · have : vi (fu f (14 + 6 * i + 4) (clk f + I 202 5).toInt64) j 4 = (clk f + I 202 5).toInt64 := by rw [e]; exact fu_e
            rw [this]; exact isI_j _
          · have : vi (fu f (14 + 6 * i + 4) (clk f + I 202 5).toInt64) j 4 = vi f j 4 := fu_n (by omega)
            rw [this]; exact q.2.2.2.2.1
        unfold wfi at q ⊢
        rw [ont_vi (w := 0) hont hj (by omega) (by omega), ont_vi (w := 1) hont hj (by omega) (by omega), ont_vi (w := 2) hont hj (by omega) (by omega), ont_vi (w := 3) hont hj (by omega) (by omega), ont_vi (w := 5) hont hj (by omega) (by omega)]
        exact ⟨q.1, q.2.1, q.2.2.1, q.2.2.2.1, h4, q.2.2.2.2.2⟩
      have wf2 := wff_ont hg h6 hont c.1.2.1 hw3
      have r2 : RS I2 J1 NH NY NE 32 (fu f (14 + 6 * i + 4) (clk f + I 202 5).toInt64) := ⟨sr2, wff_sam wf2 o12, fun k hk => by rw [hoi (8 + k) (by omega)]; exact c1.1.2.2.1 k hk, by rw [hoi 0 (by omega)]; exact c.1.2.2.2⟩
      refine ⟨.inl (clk f + I 202 5), I2, J1, x, ?_, by omega, fun J' hJ => ?_⟩
      · rw [chead, if_neg hok.1, if_pos hok.2, e1, ob_s, c_R2, ob_s, c_R1, ob_s, e_rc, ob_s, gv, ob_s, c_R2, ob_s, e_R2, ob_s, t_32, ob_s, si_get (s := 32) si31 sr2.1 rfl (li_n 4) hi12 (by omega), ob_s, g4]
      · have jm : ∀ r, 155 ≤ r → r ≠ 220 → J' r = J r := fun r a b => (hJ r b).trans (k1 r (by omega))
        have e2 : ∀ r, 155 ≤ r → I2 r = I r := fun r a => (ol r (by omega)).trans (q1 r (by omega))
        have hf : J' 201 = f := (jm 201 (by omega) (by omega)).trans m.1
        obtain ⟨I3, J3, e3, hf3, m3, s3, j3, o3, n3, z3, l3⟩ := @m_kept I I2 J J' x NH NY NE u tp f H S b c m (fun r a _ => e2 r a) jm
        refine ⟨clk f + I 202 5, I3, jr J3 (fu f (14 + 6 * i + 4) (clk f + I 202 5).toInt64), ?_, Inv_chg w rd c1 q1 (row31_onl ol) (fun _ _ => rfl) r2 m3 (fun r hr => (j3 r hr).trans (hJ r (by omega))) o3 n3 (fun _ _ _ => rfl) (fun _ _ _ => rfl), ?_, z3, rfl⟩
        · have ev4 : vi (fu f (14 + 6 * i + 4) (clk f + I 202 5).toInt64) i 4 = (clk f + I 202 5).toInt64 := fu_e
          have e5 : I3 202 5 = I 202 5 := by rw [s3 202 (by omega) (by omega)]
          rw [mhead I2 J' x hf, if_neg hok.1, if_pos hok.2, bb_X12_evict_34, m_rc, ob_s, m_thr0 2 (by decide), ob_s, if_pos rfl, m_rc, ob_s, e3, ob_s, hf3, m_R1, ob_s, m_of4, ob_s, m_R1, ob_s, m_n0J, ob_s, m_R2, ob_s, m_to5, ob_s, e5, clk_add c.1.2.1.1 hg.2.2.2.2.2.1, m_snowJ _ (by omega), ob_s, m_rc, ob_s, m_its4J hi12, ob_s, ev4, Int32.toInt32_toInt64, jr_jr]
        · rw [jr_off (by omega), l3]
    · refine Cal_thr (v := 0) hi 1 2 hcd1 (by decide) ?_ (fun J' hJ => ?_)
      · rw [chead]
        by_cases h1 : mbd f i = -1
        · rw [if_pos h1]
        · rw [if_neg h1, if_neg (fun q => hok ⟨h1, q⟩)]
      · have t29 : bb_X12_evict_29 200 (nI i) 200 (S0, th I 0, J', x + 1) = some (0, (S0, th I 2, J', x + 1)) := by
          rw [bb_X12_evict_29, bb_X12_evict_34, m_rc, ob_s, m_thr1 2 (by decide), ob_s]
          rfl
        rw [mhead I J' (x + 1) ((hJ 201 (by omega)).trans m.1), t29]
        by_cases h1 : mbd f i = -1
        · rw [if_pos h1]
        · rw [if_neg h1, if_neg (fun q => hok ⟨h1, q⟩)]
end CI
