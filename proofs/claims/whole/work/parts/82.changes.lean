/-! ===== changes ===== -/
section CH
variable {I I' I0 I1 I2 I3 I4 : Nat → Nat → Int32} {J J' J1 J2 J3 J4 : Nat → Nat → Int64} {x : Nat} {NH NY NE NR s d u tp u' tp' : Nat} {f g f' : Nat → Int64} {H S H' : Nat → Nat → Int64} {b : Nat → Bool}
/-- a call that throws changes nothing -/
theorem Cal_thr {α : Type} {cl : ab_Mm → Option ((α ⊕ Nat) × ab_Mm)} {md : ab_Mm → Option (α × ab_Mm)} {cd : Nat → Option Int32} {v : α} (hi : Inv I J) (k : Nat) (c : Int32) (hcd : cd k = some c) (hc : c ≠ 0) (hcl : cl (S0, I, J, x) = some (.inr k, (S0, I, J, x + 1))) (hmd : ∀ J' : Nat → Nat → Int64, (∀ r, r ≠ 220 → J' r = J r) → md (S0, I, J', x + 1) = some (v, (S0, th I c, J', x + 1))) : Cal cl md cd I J x :=
  ⟨.inr k, I, J, x + 1, hcl, by omega, fun J' hJ => ⟨v, th I c, J', hmd J' hJ, Inv_kp hi (kp_th (kp_refl (Inv_Cst hi)) _) (fun r _ _ q => hJ r q), rfl, c, hcd, hc, th_at _⟩⟩
/-- rows other than those of the present situation stay -/
def row31 (I I' : Nat → Nat → Int32) : Prop := ∀ r, r ≠ 31 → (r < 32 ∨ 42 ≤ r) → I' r = I r
theorem row31_onl (o : onl 32 I I') : row31 I I' := fun r _ h => o r (by omega)
theorem row31_trans (o : row31 I I1) (o' : row31 I1 I2) : row31 I I2 := fun r a c => (o' r a c).trans (o r a c)
theorem InvC_31 (h : InvC I J NH NY NE f u tp H b S) (o : row31 I I') (k : ∀ r, r ≠ 41 → J' r = J r) (hr : RS I' J' NH NY NE 32 f') : InvC I' J' NH NY NE f' u tp H b S := by
  obtain ⟨_, hC, hH, hS⟩ := h
  have s2 : sam 201 207 I I' := fun r h1 h2 => o r (by omega) (by omega)
  exact ⟨hr, Cst_sam hC (fun r h1 h2 => o r (by omega) (by omega)) (fun r h1 h2 => o r (by omega) (by omega)), HiC_sam hH (fun r h1 h2 => o r (by omega) (by omega)) s2 (fun r h1 h2 => k r (by omega)), SvC_sam hS (by rw [o 52 (by omega) (by omega)]) (fun r h1 h2 => o r (by omega) (by omega)) s2 (fun r h1 h2 => k r (by omega))⟩
theorem InvM_jr (h : InvM I J f u H b S) (h1 : I' 200 29 = I 200 29) (h2 : I' 219 = I 219) : InvM I' (jr J f') f' u H b S := by
  obtain ⟨_, ⟨c, c2⟩, e⟩ := h
  refine ⟨rfl, ⟨h1.trans c, fun k hk i hi => ?_⟩, fun t ht => ⟨?_, fun hb i hi => ?_⟩⟩
  · rw [jr_off (by omega)]; exact c2 k hk i hi
  · rw [h2]; exact (e t ht).1
  · rw [jr_off (by omega)]; exact (e t ht).2 hb i hi
/-- a change: class and model have remembered and then changed alike -/
theorem Inv_chg (w : W0 I NH NY NE NR) (rd : Rdr I) (c1 : InvC I1 J1 NH NY NE f u' tp' H' b S) (o1 : ∀ r, r < 52 ∨ 155 ≤ r → I1 r = I r) (o2 : row31 I1 I2) (k2 : ∀ r, r ≠ 41 → J2 r = J1 r) (r2 : RS I2 J2 NH NY NE 32 f')
    (m3 : InvM I3 J3 f u' H' b S) (j3 : ∀ r, r < 200 → J3 r = J2 r) (o3 : ∀ r, r ≠ 200 → I3 r = I2 r) (n3 : ∀ k, k ≠ 0 → k ≠ 29 → I3 200 k = I2 200 k)
    (o4 : ∀ r, r ≠ 200 → r ≠ 210 → I4 r = I3 r) (n4 : ∀ k, k ≠ 0 → k ≠ 27 → I4 200 k = I3 200 k) : Inv I4 (jr J3 f') := by
  have c2 := InvC_31 c1 o2 k2 r2
  have off : ∀ r, r ≠ 200 → r ≠ 210 → I4 r = I2 r := fun r a e => (o4 r a e).trans (o3 r a)
  have offI : ∀ r, r ≠ 200 → r ≠ 210 → r ≠ 31 → (r < 32 ∨ 155 ≤ r) → I4 r = I r := fun r a e c q => (off r a e).trans ((o2 r c (by omega)).trans (o1 r (by omega)))
  have offk : ∀ k, k ≠ 0 → k ≠ 27 → k ≠ 29 → I4 200 k = I 200 k := fun k a c e => (n4 k a c).trans ((n3 k a e).trans (by rw [o2 200 (by omega) (by omega), o1 200 (by omega)]))
  refine Inv_of (W0_sam w (fun r h1 h2 => offI r (by omega) (by omega) (by omega) (by omega)) (fun r h1 h2 => offI r (by omega) (by omega) (by omega) (by omega))) (InvC_md c2 (fun r h1 h2 => off r (by omega) (by omega)) (fun r h1 h2 => off r (by omega) (by omega)) (fun r h => (jr_off (by omega)).trans (j3 r h))) (InvM_jr m3 (n4 29 (by omega) (by omega)) (o4 219 (by omega) (by omega))) (ag_refl _) (Rdr_sam rd (fun r h1 h2 => offI r (by omega) (by omega) (by omega) (by omega)) (offI 209 (by omega) (by omega) (by omega) (by omega)) (offk 10 (by omega) (by omega) (by omega)) (offk 17 (by omega) (by omega) (by omega)) ⟨congrFun (offI 213 (by omega) (by omega) (by omega) (by omega)) 0, congrFun (offI 214 (by omega) (by omega) (by omega) (by omega)) 0⟩)
theorem c_budget (hl : clR I NH NY NE NR) (hp : spR J 32 f) {e : Nat} (he : e < NE) (h6 : NE ≤ 6) : dd_X11_needBudget 0 (nI e) (S0, I, J, x) = some (if mov I f e then .inr 1 else .inl (), (S0, I, J, if mov I f e then x + 1 else x)) := by
  unfold dd_X11_needBudget
  rw [c_R2, ob_s, c_R1, ob_s, e_rc, ob_s, si_over si31 cl17 hl.1 rfl (by omega), ob_s, sr_ov hl hp he h6]
  simp only [bo_if]
  cases mov I f e <;> rfl
theorem th_sam {lo hi : Nat} {v : Int32} (h : hi ≤ 200 ∨ 201 ≤ lo) : sam lo hi I (th I v) := sam_u sam_refl (by omega)
theorem mov_I (h : I' 205 = I 205) (f : Nat → Int64) (e : Nat) : mov I' f e = mov I f e := by
  unfold mov
  rw [h]
theorem m_thr1 (c : Int32) (hc : 0 < c) (J' : Nat → Nat → Int64) (x' : Nat) : dd_X12_throwsIf 200 1 c (S0, th I 0, J', x') = some (1, (S0, th I c, J', x')) := by
  have q := @m_thr (th I 0) J' x' true c hc (th_at 0)
  simp only [if_true] at q
  rw [th_th] at q
  exact q
theorem m_thr0 (c : Int32) (hc : 0 < c) (J' : Nat → Nat → Int64) (x' : Nat) : dd_X12_throwsIf 200 0 c (S0, th I 0, J', x') = some (0, (S0, th I 0, J', x')) := by
  have q := @m_thr (th I 0) J' x' false c hc (th_at 0)
  simp only [Bool.false_eq_true, if_false] at q
  rw [th_th] at q
  exact q
theorem q_launch (hi : Inv I J) (cd : Nat → Option Int32) (hcd : cd 0 = some 1) (hcd1 : cd 1 = some 2) (a c2 : Int32) : Cal (dd_X11_launch 0 a c2) (dd_X12_launch 200 a c2) cd I J x := by
  obtain ⟨NH, NY, NE, NR, f, u, tp, H, b, S, w, c, m, rd⟩ := id hi
  obtain ⟨hc, hg, hl, hm⟩ := id w
  have h8 := hc.2.1
  have h6 := hc.2.2.1
  have h6e := hc.2.2.2.1
  have nr0 := c_need (I := I) (J := J) (x := x) cl17.2.2.2.1.1 hl.2.1.2.2.1 (show NE < 1000 by omega) a
  have nr1 := c_need (I := I) (J := J) (x := x) cl17.2.2.1.1 hl.2.1.2.1 (show NY < 1000 by omega) c2
  cases ha : inN a NE with
  | false =>
    refine Cal_thr (v := 0) hi 0 1 hcd (by decide) ?_ (fun J' hJ => ?_)
    · unfold dd_X11_launch
      rw [c_R1, ob_s, d_R2, ob_s, c_rc, ob_s, nr0, ob_s, ha]
      rfl
    · unfold dd_X12_launch
      rw [m_rc, ob_s, m_noTenant hc, ob_s, ha]
      rfl
  | true =>
    obtain ⟨e, he, rfl⟩ := inN_ex ha (by omega)
    rw [ha] at nr0
    simp only [if_true] at nr0
    have mt1 : ∀ (I1 : Nat → Nat → Int32) (J' : Nat → Nat → Int64) (x' : Nat), mc I1 NH NY NE NR → dd_X12_noTenant 200 (nI e) (S0, I1, J', x') = some (0, (S0, th I1 0, J', x')) := by
      intro I1 J' x' h
      rw [m_noTenant h, ha]
      rfl
    cases hb : inN c2 NY with
    | false =>
      refine Cal_thr (v := 0) hi 0 1 hcd (by decide) ?_ (fun J' hJ => ?_)
      · unfold dd_X11_launch
        rw [c_R1, ob_s, d_R2, ob_s, c_rc, ob_s, nr0, ob_s]
        show ((ab_fR (S0, I, J, x) 11 0 1).bind _) = _
        rw [c_R1, ob_s, d_R1, ob_s, c_rc, ob_s, nr1, ob_s, hb]
        rfl
      · unfold dd_X12_launch
        have hc' : mc (th I 0) NH NY NE NR := mc_sam hc (th_sam (by omega))
        rw [m_rc, ob_s, mt1 I J' _ hc, ob_s, if_pos rfl, m_rc, ob_s, m_noType hc', ob_s, hb, th_th]
        rfl
    | true =>
      obtain ⟨y, hy, rfl⟩ := inN_ex hb (by omega)
      rw [hb] at nr1
      simp only [if_true] at nr1
      have mt2 : ∀ (I1 : Nat → Nat → Int32) (J' : Nat → Nat → Int64) (x' : Nat), mc I1 NH NY NE NR → dd_X12_noType 200 (nI y) (S0, th I1 0, J', x') = some (0, (S0, th I1 0, J', x')) := by
        intro I1 J' x' h
        rw [m_noType (mc_sam h (th_sam (by omega))), hb, th_th]
        rfl
      have bg := c_budget (I := I) (J := J) (x := x) hl c.1.2.2.1 he h6e
      have head : dd_X11_launch 0 (nI e) (nI y) (S0, I, J, x) = (dd_X11_needBudget 0 (nI e) (S0, I, J, x)).bind fun q7 => match q7.1 with
        | .inl v7 =>
          (ab_fR q7.2 11 0 2).bind fun v8 =>
          (ab_rc q7.2 8 v8).bind fun _ =>
          (dd_X8_isFull v8 q7.2).bind fun q9 =>
          if q9.1 = 0 then
            (ab_fR q9.2 11 0 2).bind fun v10 =>
            (ab_fR q9.2 11 0 1).bind fun v11 =>
            (ab_rc q9.2 8 v10).bind fun _ =>
            (dd_X8_tightestHost v10 v11 (nI y) q9.2).bind fun q12 =>
            if q12.1 = (-1 : Int32) then
              some (.inr 1, ab_xm q12.2)
            else
              (ab_fR q12.2 11 0 4).bind fun v13 =>
              (ab_fR q12.2 11 0 2).bind fun v14 =>
              (ab_rc q12.2 4 v13).bind fun _ =>
              (dd_X4_remember v13 v14 q12.2).bind fun q15 =>
              (ab_fR q15.2 11 0 2).bind fun v16 =>
              (ab_fR q15.2 11 0 1).bind fun v17 =>
              (ab_rc q15.2 8 v16).bind fun _ =>
              (dd_X8_start v16 v17 (nI e) (nI y) (-1 : Int32) q12.1 q15.2).bind fun q18 =>
              some (.inl q18.1, q18.2)
          else
            some (.inr 1, ab_xm q9.2)
        | .inr v7 =>
          some (.inr v7, q7.2) := by
        unfold dd_X11_launch
        rw [c_R1, ob_s, d_R2, ob_s, c_rc, ob_s, nr0, ob_s]
        show ((ab_fR (S0, I, J, x) 11 0 1).bind _) = _
        rw [c_R1, ob_s, d_R1, ob_s, c_rc, ob_s, nr1, ob_s]
        show ((ab_rc (S0, I, J, x) 11 0).bind _) = _
        rw [c_rc, ob_s]
        rfl
      have mhead : ∀ (I1 : Nat → Nat → Int32) (J' : Nat → Nat → Int64) (x' : Nat), sam 201 207 I I1 → J' 201 = f → dd_X12_launch 200 (nI e) (nI y) (S0, I1, J', x') = if mov I f e = true then bb_X12_launch_46 200 (nI e) (nI y) 200 (S0, th I1 0, J', x') else if cn (rn f) 12 = 12 then bb_X12_launch_46 200 (nI e) (nI y) 200 (S0, th I1 0, J', x') else if (mbest I f y NH).1 = -1 then bb_X12_launch_46 200 (nI e) (nI y) 200 (S0, th I1 0, J', x') else bb_X12_launch_51 200 (nI e) (nI y) 200 0 (S0, th I1 0, J', x') := by
        intro I1 J' x' hs hf
        have hc1 := mc_sam hc hs
        have hc2 : mc (th I1 0) NH NY NE NR := mc_sam hc1 (th_sam (by omega))
        have s3 : sam 201 207 I (th I1 0) := sam_trans hs (th_sam (by omega))
        have bst := @m_best (th I1 0) J' x' NH NY NE NR y hc2 (by rw [hf]; exact c.1.2.1.2.2.1) (by omega)
        rw [hf, mbest_I (s3 203 (by omega) (by omega)) (s3 204 (by omega) (by omega))] at bst
        have hcn := cn_le (rn f) 12
        unfold dd_X12_launch
        rw [m_rc, ob_s, mt1 I1 J' _ hc1, ob_s, if_pos rfl, m_rc, ob_s, mt2 I1 J' _ hc1, ob_s, if_pos rfl, m_rc, ob_s, m_over (by omega), ob_s, hf, mov_I (s3 205 (by omega) (by omega))]
        simp only [bo_if]
        cases hv : mov I f e with
        | true => rfl
        | false =>
          simp only [if_true, Bool.false_eq_true, if_false]
          rw [m_rc, ob_s, m_ones, ob_s, bits_sets, ob_s, hf]
          show (if nI (cn (rn f) 12) = nI 12 then _ else _) = _
          simp only [li_eq (show cn (rn f) 12 < 2 ^ 31 by omega) (show 12 < 2 ^ 31 by omega)]
          rw [m_rc, ob_s, bst, ob_s]
      by_cases hok : mov I f e = false ∧ cn (rn f) 12 < 12 ∧ (mbest I f y NH).1 ≠ -1
      · obtain ⟨o1, o2, o3⟩ := hok
        obtain ⟨i, hi12, el⟩ := lof_some o2
        obtain ⟨h, hh, eb, hfit⟩ : ∃ h, h < NH ∧ (mbest I f y NH).1 = nI h ∧ mfit I f y h = true := by
          rcases mbest_is I f y NH (by omega) with q | q
          · exact absurd q o3
          · exact q
        obtain ⟨I1, J1, e1, c1, q1, k1⟩ := @c_remember I J x NH NY NE u tp f H S b h6 c
        have s1 : sam 201 207 I I1 := fun r a b => q1 r (by omega)
        have hl1 : clR I1 NH NY NE NR := clR_sam hl (fun r a b => q1 r (by omega)) s1
        have st := @si_start I1 J1 x NY 32 f si31 (by omega) c1.1.1.1 hl1.1 c1.1.1 i y h el (nI e) (-1) (by omega) (by omega)
        have sr2 := sr_start hl1 (mc_sam hc s1) c1.1.1 (by omega) (by omega) el (-1) he hy hh
        have wf2 : wff I NH NY NE (fst f i (nI e).toInt64 (nI y).toInt64 (nI h).toInt64 (-1 : Int32).toInt64) := wff_start hg hc c.1.2.1 el he hy hh (Or.inl rfl) hfit
        have ol : onl 32 I1 (ldU (rwU (ab_u I1 32 1 (I1 32 1 ||| ((1 : Int32) <<< (nI i &&& 31)))) 32 i (nI e) (nI y) (-1) (nI h) (I1 32 0)) 32 h (gt I1 18 y 0) (gt I1 18 y 1)) := onl_ldU h 0 _ _ (onl_rwU i _ _ _ _ _ (onl_u (onl_refl 32 I1) (by omega) (by omega)))
        generalize ldU (rwU (ab_u I1 32 1 (I1 32 1 ||| ((1 : Int32) <<< (nI i &&& 31)))) 32 i (nI e) (nI y) (-1) (nI h) (I1 32 0)) 32 h (gt I1 18 y 0) (gt I1 18 y 1) = I2 at st sr2 ol
        have o12 : sam 201 207 I I2 := fun r a b => (ol r (by omega)).trans (s1 r a b)
        have f0 : fst f i (nI e).toInt64 (nI y).toInt64 (nI h).toInt64 (-1 : Int32).toInt64 0 = f 0 := fst_oi 0 (by omega)
        have r2 : RS I2 J1 NH NY NE 32 (fst f i (nI e).toInt64 (nI y).toInt64 (nI h).toInt64 (-1 : Int32).toInt64) := ⟨sr2, wff_sam wf2 o12, fun k hk => by rw [fst_sp (by omega)]; exact c1.1.2.2.1 k hk, by rw [f0]; exact c.1.2.2.2⟩
        refine ⟨.inl (nI i), I2, J1, x, ?_, by omega, fun J' hJ => ?_⟩
        · rw [head, bg, ob_s, o1]
          simp only [Bool.false_eq_true, if_false]
          rw [c_R2, ob_s, e_rc, ob_s, si_full si31 c.1.1, ob_s, if_pos o2, if_pos rfl, c_R2, ob_s, c_R1, ob_s, e_rc, ob_s, si_best si31 c.1.1.1 cl17 hl.1 rfl (show y < 6 by omega) hl.2.1.1 h8, ob_s, sr_best hl hg c.1.2.1.2.2.1 c.1.1 hy h8, eb, if_neg (nI_ne (by omega)), c_R4, ob_s, c_R2, ob_s, rc_X4 okH, ob_s, e1, ob_s, c_R2, ob_s, c_R1, ob_s, e_rc, ob_s, st, ob_s]
        · have jm : ∀ r, 155 ≤ r → r ≠ 220 → J' r = J r := fun r a b => (hJ r b).trans (k1 r (by omega))
          have e2 : ∀ r, 155 ≤ r → I2 r = I r := fun r a => (ol r (by omega)).trans (q1 r (by omega))
          have hf : J' 201 = f := (jm 201 (by omega) (by omega)).trans m.1
          have m2 : InvM (th I2 0) J' f u H b S := InvM_cl m (by rw [th_offk _ (by omega), e2 200 (by omega)]) (by rw [th_off _ (by omega), e2 219 (by omega)]) (jm 201 (by omega) (by omega)) (jm 217 (by omega) (by omega)) (jm 218 (by omega) (by omega))
          obtain ⟨I3, J3, e3, m3, o3', ok3, k3⟩ := @m_keeps (th I2 0) J' x u f H S b m2 c.2.2.1.1
          have hf3 : J3 = jr J3 f := by
            have := jr_id J3
            rw [m3.1] at this
            exact this.symm
          have s3 : sam 201 207 I I3 := fun r a b => (o3' r (by omega)).trans ((th_off _ (by omega)).trans (o12 r a b))
          have bst := @m_bestJ I3 J3 x NH NY NE NR f y (mc_sam hc s3) c.1.2.1.2.2.1 (by omega)
          rw [← hf3, mbest_I (s3 203 (by omega) (by omega)) (s3 204 (by omega) (by omega)), eb] at bst
          have bgn := @m_begins I3 J3 x f i el (nI e) (nI y) (nI h) (-1)
          rw [← hf3] at bgn
          refine ⟨nI i, I3, jr J3 (fst f i (nI e).toInt64 (nI y).toInt64 (nI h).toInt64 (-1 : Int32).toInt64), ?_, Inv_chg w rd c1 q1 (row31_onl ol) (fun _ _ => rfl) r2 m3 (fun r hr => (k3 r (by omega)).trans (hJ r (by omega))) (fun r hr => (o3' r hr).trans (th_off _ hr)) (fun k a b => (ok3 k b).trans (th_offk _ a)) (fun _ _ _ => rfl) (fun _ _ _ => rfl), ?_, ?_, rfl⟩
          · rw [mhead I2 J' x o12 hf, if_neg (by rw [o1]; decide), if_neg (by omega), if_neg (by rw [eb]; exact nI_ne (by omega)), bb_X12_launch_51, m_rc, ob_s, m_thr0 2 (by decide), ob_s, if_pos rfl, m_rc, ob_s, e3, ob_s, m_rc, ob_s, bst, ob_s, m_rc, ob_s, bgn, ob_s]
          · rw [jr_off (by omega), k3 220 (by omega)]
          · rw [ok3 0 (by omega), th_at]
      · refine Cal_thr (v := 0) hi 1 2 hcd1 (by decide) ?_ (fun J' hJ => ?_)
        · rw [head, bg, ob_s]
          cases hv : mov I f e with
          | true => rfl
          | false =>
            simp only [Bool.false_eq_true, if_false]
            rw [c_R2, ob_s, e_rc, ob_s, si_full si31 c.1.1, ob_s]
            by_cases h2 : cn (rn f) 12 < 12
            · have h3 : (mbest I f y NH).1 = -1 := Classical.byContradiction (fun q => hok ⟨hv, h2, q⟩)
              rw [if_pos h2, if_pos rfl, c_R2, ob_s, c_R1, ob_s, e_rc, ob_s, si_best si31 c.1.1.1 cl17 hl.1 rfl (show y < 6 by omega) hl.2.1.1 h8, ob_s, sr_best hl hg c.1.2.1.2.2.1 c.1.1 hy h8, h3, if_pos rfl]
              rfl
            · rw [if_neg h2, if_neg n10]
              rfl
        · have hcn := cn_le (rn f) 12
          have t46 : bb_X12_launch_46 200 (nI e) (nI y) 200 (S0, th I 0, J', x + 1) = some (0, (S0, th I 2, J', x + 1)) := by
            rw [bb_X12_launch_46, bb_X12_launch_51, m_rc, ob_s, m_thr1 2 (by decide), ob_s]
            rfl
          rw [mhead I J' (x + 1) sam_refl ((hJ 201 (by omega)).trans m.1), t46]
          cases hv : mov I f e with
          | true => rfl
          | false =>
            rw [if_neg (by decide)]
            by_cases h2 : cn (rn f) 12 = 12
            · rw [if_pos h2]
            · have h3 : (mbest I f y NH).1 = -1 := Classical.byContradiction (fun q => hok ⟨hv, by omega, q⟩)
              rw [if_neg h2, if_pos h3]
end CH
