/-! ===== bid: the call ===== -/
section BE
variable {I I' I0 I1 I2 I3 I4 : Nat → Nat → Int32} {J J' J1 J2 J3 J4 : Nat → Nat → Int64} {x : Nat} {NH NY NE NR s d u tp u' tp' : Nat} {f g f' : Nat → Int64} {H S H' : Nat → Nat → Int64} {b : Nat → Bool}
theorem onl_inU (n p : Nat) (e y v : Int32) : onl s I (inU I s n p e y v) := fun r hr => inU_off (by omega) (by omega)
theorem nq_inc (hq : isn (f 1) 11) : f 1 + 1 = (nI (nq f + 1)).toInt64 := by
  have h2 : nq f < 11 := hq.2
  have e : f 1 = (nI (nq f)).toInt64 := hq.1
  rw [e, nI_l (by omega), nI_l (by omega)]
  exact lN_add _ 1
theorem q_bid (hi : Inv I J) (cd : Nat → Option Int32) (hcd : cd 0 = some 1) (hcd2 : cd 2 = some 2) (hcd1 : cd 1 = some 3) (a c2 v : Int32) : Cal (dd_X11_bid 0 a c2 v) (dd_X12_bid 200 a c2 v) cd I J x := by
  obtain ⟨NH, NY, NE, NR, f, u, tp, H, b, S, w, c, m, rd⟩ := id hi
  obtain ⟨hc, hg, hl, hm⟩ := id w
  have h8 := hc.2.1
  have h6 := hc.2.2.1
  have h6e := hc.2.2.2.1
  have hq11 : isn (f 1) 11 := c.1.2.1.2.1
  have hq : nq f < 11 := hq11.2
  have nr0 := c_need (I := I) (J := J) (x := x) cl17.2.2.2.1.1 hl.2.1.2.2.1 (show NE < 1000 by omega) a
  have nr1 := c_need (I := I) (J := J) (x := x) cl17.2.2.1.1 hl.2.1.2.1 (show NY < 1000 by omega) c2
  cases ha : inN a NE with
  | false =>
    refine Cal_thr (v := 0) hi 0 1 hcd (by decide) ?_ (fun J' hJ => ?_)
    · unfold dd_X11_bid
      rw [c_R1, ob_s, d_R2, ob_s, c_rc, ob_s, nr0, ob_s, ha]
      rfl
    · unfold dd_X12_bid
      rw [m_rc, ob_s, m_noTenant hc, ob_s, ha]
      rfl
  | true =>
    obtain ⟨e, he, rfl⟩ := inN_ex ha (by omega)
    rw [ha] at nr0
    simp only [if_true] at nr0
    have mt1 : ∀ (I1 : Nat → Nat → Int32) (J' : Nat → Nat → Int64) (x' : Nat), mc I1 NH NY NE NR → dd_X12_noTenant 200 (nI e) (S0, I1, J', x') = some (0, (S0, th I1 0, J', x')) := by
      intro I1 J' x' h
      rw [m_noTenant h, ha]
      rfl
    cases hb : inN c2 NY with
    | false =>
      refine Cal_thr (v := 0) hi 0 1 hcd (by decide) ?_ (fun J' hJ => ?_)
      · unfold dd_X11_bid
        rw [c_R1, ob_s, d_R2, ob_s, c_rc, ob_s, nr0, ob_s]
        show ((ab_fR (S0, I, J, x) 11 0 1).bind _) = _
        rw [c_R1, ob_s, d_R1, ob_s, c_rc, ob_s, nr1, ob_s, hb]
        rfl
      · unfold dd_X12_bid
        rw [m_rc, ob_s, mt1 I J' _ hc, ob_s, if_pos rfl, m_rc, ob_s, m_noType (mc_sam hc (th_sam (by omega))), ob_s, hb, th_th]
        rfl
    | true =>
      obtain ⟨y, hy, rfl⟩ := inN_ex hb (by omega)
      rw [hb] at nr1
      simp only [if_true] at nr1
      have wit : wi v.toInt64 1 9999 = decide (1 ≤ v.toInt ∧ v.toInt ≤ 9999) := by
        unfold wi
        have q1 : (v.toInt64 < 1) = (v.toInt < 1) := by rw [Int64.lt_iff_toInt_lt, Int32.toInt_toInt64]; rfl
        have q2 : ((9999 : Int64) < v.toInt64) = (9999 < v.toInt) := by rw [Int64.lt_iff_toInt_lt, Int32.toInt_toInt64]; rfl
        simp only [q1, q2]
        by_cases h1 : v.toInt < 1 <;> by_cases h2 : 9999 < v.toInt <;> simp [h1, h2] <;> omega
      have l1 : (v < 1) = (v.toInt < 1) := by rw [Int32.lt_iff_toInt_lt]; rfl
      have l2 : (v ≤ 9999) = (v.toInt ≤ 9999) := by rw [Int32.le_iff_toInt_le]; rfl
      have bg := c_budget (I := I) (J := J) (x := x) hl c.1.2.2.1 he h6e
      have hsz : I (32 + 3) 3 = nI (nq f) := c.1.1.2.2.2.2.2.2.1
      have h10 : I (32 + 3) 0 = nI 10 := c.1.1.1.2.1.1
      have isf : dd_X10_isFull 35 (S0, I, J, x) = some (if nq f < 10 then 0 else 1, (S0, I, J, x)) := by
        have q := tb_isFull (t := 35) (I := I) (J := J) (x := x) si31.2.2.1.1
        rw [show I 35 3 = nI (nq f) from hsz, show I 35 0 = nI 10 from h10] at q
        rw [q]
        by_cases hz : nq f < 10
        · rw [if_pos (by rw [li_lt (by omega) (by omega)]; exact hz), if_pos hz]
        · rw [if_neg (by rw [li_lt (by omega) (by omega)]; exact hz), if_neg hz]
      have chead : dd_X11_bid 0 (nI e) (nI y) v (S0, I, J, x) = if v < 1 then some (.inr 2, (S0, I, J, x + 1)) else if v ≤ 9999 then (if mov I f e = true then some (.inr 1, (S0, I, J, x + 1)) else if nq f < 10 then
          ((dd_X4_remember 52 32 (S0, I, J, x)).bind fun q13 =>
          (ab_fR q13.2 11 0 2).bind fun v14 =>
          (ab_rc q13.2 8 v14).bind fun _ =>
          (dd_X8_queue v14 (nI e) (nI y) v q13.2).bind fun q15 =>
          (ab_fR q15.2 11 0 2).bind fun v16 =>
          (ab_fR q15.2 8 v16 3).bind fun v17 =>
          (ab_fI q15.2 10 v17 3).bind fun v18 =>
          some (.inl v18, q15.2)) else some (.inr 1, (S0, I, J, x + 1))) else some (.inr 2, (S0, I, J, x + 1)) := by
        unfold dd_X11_bid
        rw [c_R1, ob_s, d_R2, ob_s, c_rc, ob_s, nr0, ob_s]
        show ((ab_fR (S0, I, J, x) 11 0 1).bind _) = _
        rw [c_R1, ob_s, d_R1, ob_s, c_rc, ob_s, nr1, ob_s]
        show (if v < 1 then _ else _) = _
        by_cases q1 : v < 1
        · rw [if_pos q1, if_pos q1]; rfl
        · rw [if_neg q1, if_neg q1]
          by_cases q2 : v ≤ 9999
          · rw [if_pos q2, if_pos q2, c_rc, ob_s, bg, ob_s]
            cases mov I f e with
            | true => rfl
            | false =>
              simp only [Bool.false_eq_true, if_false]
              rw [c_R2, ob_s, e_R3, ob_s, t_34, ob_s, isf, ob_s]
              by_cases q3 : nq f < 10
              · rw [if_pos q3, if_pos q3, if_pos rfl, c_R4, ob_s, c_R2, ob_s, rc_X4 okH, ob_s]
              · rw [if_neg q3, if_neg q3, if_neg n10]; rfl
          · rw [if_neg q2, if_neg q2]; rfl
      have lg : ∀ J' : Nat → Nat → Int64, J' 201 = f → (lg_cmp (J' 201 1) 10 = 0) = ¬ (nq f < 10) := by
        intro J' hJ'
        have e1 : f 1 = (nI (nq f)).toInt64 := hq11.1
        rw [lc_eq, hJ', e1, nI_l (by omega), show (10 : Int64) = lN 10 from rfl]
        refine (propext (lN_eq (by omega) (by omega))).trans (propext ⟨fun h => by omega, fun h => by omega⟩)
      have mhead : ∀ (I1 : Nat → Nat → Int32) (J' : Nat → Nat → Int64) (x' : Nat), sam 201 207 I I1 → J' 201 = f → dd_X12_bid 200 (nI e) (nI y) v (S0, I1, J', x') = if (1 ≤ v.toInt ∧ v.toInt ≤ 9999) then (if mov I f e = true then bb_X12_bid_63 200 (nI e) (nI y) v 200 (S0, th I1 0, J', x') else if nq f < 10 then bb_X12_bid_68 200 (nI e) (nI y) v 200 0 (S0, th I1 0, J', x') else bb_X12_bid_63 200 (nI e) (nI y) v 200 (S0, th I1 0, J', x')) else some (0, (S0, th I1 2, J', x')) := by
        intro I1 J' x' hs hf
        have hc1 := mc_sam hc hs
        have s3 : sam 201 207 I (th I1 0) := sam_trans hs (th_sam (by omega))
        unfold dd_X12_bid
        rw [m_rc, ob_s, mt1 I1 J' _ hc1, ob_s, if_pos rfl, m_rc, ob_s, m_noType (mc_sam hc s3), ob_s, hb, th_th]
        simp only [Bool.not_true, Bool.false_eq_true, if_false, if_true]
        rw [m_within, ob_s, wit]
        by_cases hin : 1 ≤ v.toInt ∧ v.toInt ≤ 9999
        · rw [if_pos hin, decide_eq_true hin]
          simp only [if_true]
          rw [if_neg n10, bb_X12_bid_34, m_rc, ob_s, m_thr0 2 (by decide), ob_s, if_pos rfl, m_rc, ob_s, m_over (by omega), ob_s, hf, mov_I (s3 205 (by omega) (by omega))]
          simp only [bo_if]
          cases mov I f e with
          | true => rfl
          | false =>
            simp only [if_true, Bool.false_eq_true, if_false]
            rw [m_R1, ob_s, m_n1, ob_s]
            simp only [lg J' hf]
            by_cases q3 : nq f < 10
            · rw [if_neg (fun q => q q3), if_pos q3]
            · rw [if_pos q3, if_neg q3]
        · rw [if_neg hin, decide_eq_false hin]
          simp only [Bool.false_eq_true, if_false, if_true]
          rw [bb_X12_bid_34, m_rc, ob_s, m_thr1 2 (by decide), ob_s]
          rfl
      by_cases hin : 1 ≤ v.toInt ∧ v.toInt ≤ 9999
      · have n1 : ¬ v < 1 := by rw [l1]; omega
        have n2 : v ≤ 9999 := by rw [l2]; omega
        have hv : isr v 1 9999 := by
          refine ⟨v.toInt.toNat, Int32.toInt_inj.mp ?_, by omega, by omega⟩
          rw [nI_toInt (by omega)]; omega
        by_cases hok : mov I f e = false ∧ nq f < 10
        · obtain ⟨o1, o2⟩ := hok
          obtain ⟨I1, J1, e1, c1, q1, k1⟩ := @c_remember I J x NH NY NE u tp f H S b h6 c
          have s1 : sam 201 207 I I1 := fun r a b => q1 r (by omega)
          have qu := @c_queue I1 J1 x NY f c1.1.1 o2 (nI e) (nI y) v
          have sr2 := sr_queue (by omega) (by omega) h6 o2 c1.1.1 e y v
          have ol : onl 32 I1 (inU I1 32 (nq f) (plc f v) (nI e) (nI y) v) := onl_inU _ _ _ _ _
          have wf2 : wff I NH NY NE (fqF f (nI e).toInt64 (nI y).toInt64 v.toInt64) := wff_fq h6 h6e c.1.2.1 o2 he hy hv
          have z3 : inU I1 32 (nq f) (plc f v) (nI e) (nI y) v (32 + 3) 3 = nI (nq f + 1) := inU_n
          generalize inU I1 32 (nq f) (plc f v) (nI e) (nI y) v = I2 at qu sr2 ol z3
          have o12 : sam 201 207 I I2 := fun r a b => (ol r (by omega)).trans (s1 r a b)
          have r2 : RS I2 J1 NH NY NE 32 (fqF f (nI e).toInt64 (nI y).toInt64 v.toInt64) := ⟨sr2, wff_sam wf2 o12, fun k hk => by rw [fq_off (by omega) (by omega)]; exact c1.1.2.2.1 k hk, by rw [fq_off (by omega) (by omega)]; exact c.1.2.2.2⟩
          refine ⟨.inl (nI (nq f + 1)), I2, J1, x, ?_, by omega, fun J' hJ => ?_⟩
          · rw [chead, if_neg n1, if_pos n2, if_neg (by rw [o1]; decide), if_pos o2, e1, ob_s, c_R2, ob_s, e_rc, ob_s, qu, ob_s, c_R2, ob_s, e_R3, ob_s, fI_X10_3 si31.2.2.1.1, ob_s, z3]
          · have jm : ∀ r, 155 ≤ r → r ≠ 220 → J' r = J r := fun r a b => (hJ r b).trans (k1 r (by omega))
            have ee2 : ∀ r, 155 ≤ r → I2 r = I r := fun r a => (ol r (by omega)).trans (q1 r (by omega))
            have hf : J' 201 = f := (jm 201 (by omega) (by omega)).trans m.1
            obtain ⟨I3, J3, e3, hf3, m3, s3, j3, o3, n3, zz3, l3⟩ := @m_kept I I2 J J' x NH NY NE u tp f H S b c m (fun r a _ => ee2 r a) jm
            refine ⟨nI (nq f + 1), I3, jr J3 (fqF f (nI e).toInt64 (nI y).toInt64 v.toInt64), ?_, Inv_chg w rd c1 q1 (row31_onl ol) (fun _ _ => rfl) r2 m3 (fun r hr => (j3 r hr).trans (hJ r (by omega))) o3 n3 (fun _ _ _ => rfl) (fun _ _ _ => rfl), ?_, zz3, rfl⟩
            · have en : (f 1).toInt32 = nI (nq f) := isn_32 hq11
              have a0 : (86 : Int32) + 3 * nI (nq f) = nI (86 + 3 * nq f + 0) := by rw [li_n 86, li_n 3, li_mul, li_add]; rfl
              have a1 : nI (86 + 3 * nq f + 0) + (1 : Int32) = nI (86 + 3 * nq f + 1) := li_add _ 1
              have a2 : nI (86 + 3 * nq f + 0) + (2 : Int32) = nI (86 + 3 * nq f + 2) := li_add _ 2
              have s11 : ∀ (g : Nat → Int64) (z : Int64), ab_stJ (S0, I3, jr J3 g, x) 201 1 z = some (S0, I3, jr J3 (fu g 1 z), x) := fun g z => m_snowJ (j := 1) z (by omega)
              have r1 : fu (fu (fu f (86 + 3 * nq f + 0) (nI e).toInt64) (86 + 3 * nq f + 1) (nI y).toInt64) (86 + 3 * nq f + 2) v.toInt64 1 = f 1 := by rw [fu_n (by omega), fu_n (by omega), fu_n (by omega)]
              rw [mhead I2 J' x o12 hf, if_pos hin, if_neg (by rw [o1]; decide), if_pos o2, bb_X12_bid_68, m_rc, ob_s, m_thr0 3 (by decide), ob_s, if_pos rfl, m_rc, ob_s, e3, ob_s]
              have body : ∀ J3' : Nat → Nat → Int64, ((ab_fR (S0, I3, jr J3' f, x) 12 200 1).bind fun v3 =>
                  (ab_ldJ (S0, I3, jr J3' f, x) v3 (1 : Int32)).bind fun v4 =>
                  (ab_fR (S0, I3, jr J3' f, x) 12 200 1).bind fun v5 =>
                  (ab_stJ (S0, I3, jr J3' f, x) v5 ((86 : Int32) + ((3 : Int32) * v4.toInt32)) (nI e).toInt64).bind fun m6 =>
                  (ab_fR m6 12 200 1).bind fun v7 =>
                  (ab_stJ m6 v7 (((86 : Int32) + ((3 : Int32) * v4.toInt32)) + (1 : Int32)) (nI y).toInt64).bind fun m8 =>
                  (ab_fR m8 12 200 1).bind fun v9 =>
                  (ab_stJ m8 v9 (((86 : Int32) + ((3 : Int32) * v4.toInt32)) + (2 : Int32)) v.toInt64).bind fun m10 =>
                  (ab_fR m10 12 200 1).bind fun v11 =>
                  (ab_ldJ m10 v11 (1 : Int32)).bind fun v12 =>
                  (ab_stJ m10 v11 (1 : Int32) (v12 + (1 : Int64))).bind fun m13 =>
                  (ab_fR m13 12 200 1).bind fun v14 =>
                  (ab_ldJ m13 v14 (1 : Int32)).bind fun v15 =>
                  some (v15.toInt32, m13)) = some (nI (nq f + 1), (S0, I3, jr J3' (fqF f (nI e).toInt64 (nI y).toInt64 v.toInt64), x)) := by
                intro J3'
                have s11 : ∀ (g : Nat → Int64) (z : Int64), ab_stJ (S0, I3, jr J3' g, x) 201 1 z = some (S0, I3, jr J3' (fu g 1 z), x) := fun g z => m_snowJ (j := 1) z (by omega)
                rw [m_R1, ob_s, m_n1J, ob_s, ob_s, en, a0, m_snowJ _ (by omega), ob_s, m_R1, ob_s, a1, m_snowJ _ (by omega), ob_s, m_R1, ob_s, a2, m_snowJ _ (by omega), ob_s, m_R1, ob_s, m_n1J, ob_s, r1, nq_inc hq11, s11, ob_s, m_R1, ob_s, m_n1J, ob_s, fu_e, Int32.toInt32_toInt64]
                rfl
              have bd := body J3
              rw [← hf3] at bd
              exact bd
            · rw [jr_off (by omega), l3]
        · refine Cal_thr (v := 0) hi 1 3 hcd1 (by decide) ?_ (fun J' hJ => ?_)
          · rw [chead, if_neg n1, if_pos n2]
            cases hv2 : mov I f e with
            | true => rfl
            | false =>
              rw [if_neg (by decide), if_neg (fun q => hok ⟨hv2, q⟩)]
          · have t63 : bb_X12_bid_63 200 (nI e) (nI y) v 200 (S0, th I 0, J', x + 1) = some (0, (S0, th I 3, J', x + 1)) := by
              rw [bb_X12_bid_63, bb_X12_bid_68, m_rc, ob_s, m_thr1 3 (by decide), ob_s]
              rfl
            rw [mhead I J' (x + 1) sam_refl ((hJ 201 (by omega)).trans m.1), t63, if_pos hin]
            cases hv2 : mov I f e with
            | true => rfl
            | false =>
              rw [if_neg (by decide), if_neg (fun q => hok ⟨hv2, q⟩)]
      · refine Cal_thr (v := 0) hi 2 2 hcd2 (by decide) ?_ (fun J' hJ => ?_)
        · rw [chead]
          by_cases q1 : v < 1
          · rw [if_pos q1]
          · rw [if_neg q1, if_neg (by rw [l2]; rw [l1] at q1; omega)]
        · rw [mhead I J' (x + 1) sam_refl ((hJ 201 (by omega)).trans m.1), if_neg hin]
end BE
