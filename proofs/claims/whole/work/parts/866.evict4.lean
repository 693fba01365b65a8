/-! ===== the cheapest eviction: the call ===== -/
section EY
variable {I I' I0 I1 I2 I3 I4 : Nat → Nat → Int32} {J J' J1 J2 J3 J4 : Nat → Nat → Int64} {x : Nat} {NH NY NE NR s d u tp u' tp' : Nat} {f g f' : Nat → Int64} {H S H' : Nat → Nat → Int64} {b : Nat → Bool}
/-- the spots of the first j instances are noted -/
def spP (I0 : Nat → Nat → Int32) (f : Nat → Int64) (h j : Nat) (I : Nat → Nat → Int32) : Prop := (∀ r, r ≠ 191 → r ≠ 192 → I r = I0 r) ∧ I 191 1 = nI (cn (spB f h) j) ∧ I 191 2 = -1 ∧ I 191 3 = nI 119989 ∧ ∀ i, i < j → spB f h i = true → I 192 (cn (spB f h) i) = nI i
theorem c_spots (hl : clR I0 NH NY NE NR) (h8 : NH ≤ 8) (hw : wff I0 NH NY NE f) (hr : sr I0 NY 31 f) {h : Nat} (hh : h < NH) (y : Int32) (n j : Nat) (hj : j < 12) (hP : spP I0 f h j I) :
    ∃ I', bb_X3_cheapest_19 (n + 1) 191 17 31 (nI h) y (nI j) (S0, I, J, x) = bb_X3_cheapest_19 n 191 17 31 (nI h) y (nI j + 1) (S0, I', J, x) ∧ spP I0 f h (j + 1) I' := by
  obtain ⟨p1, p2, p3, p4, p5⟩ := hP
  have s2 : sam 199 205 I0 I := fun r a e => p1 r (by omega) (by omega)
  have hrI : sr I NY 31 f := sr_sam hr (fun r a e => p1 r (by omega) (by omega)) (s2 202 (by omega) (by omega))
  have hcn := cn_le (spB f h) j
  have same : spB f h j = false → spP I0 f h (j + 1) I := fun hs => ⟨p1, by rw [p2, cn, hs]; rfl, p3, p4, fun i hi hsi => by
    by_cases e : i = j
    · rw [e, hs] at hsi; cases hsi
    · exact p5 i (by omega) hsi⟩
  rw [bb_X3_cheapest_19, if_neg (li_12 hj), e_rc, ob_s, si_runsN si31 hj, ob_s, sr_ru hrI hj]
  cases hrn : rn f j with
  | false =>
    have hs : spB f h j = false := by simp [spB, hrn]
    exact ⟨I, rfl, same hs⟩
  | true =>
    simp only [if_true]
    have q := hrI.2.2.2.1 j hj hrn
    have wi := hw.2.2.1 j hj hrn
    have hho : ho f j < NH := wi.2.2.1.2
    have e3 : gi I 31 j 3 = nI (ho f j) := q.2.2.2.1.trans (isn_32 wi.2.2.1)
    have e2 : gi I 31 j 2 = mbd f j := q.2.2.1
    rw [if_neg n10, e_R2, ob_s, t_32, ob_s, si_get (s := 31) si31 hrI.1 rfl (li_n 3) hj (by omega), ob_s, e3]
    show ∃ I', (if nI (ho f j) = nI h then _ else _) = _ ∧ _
    by_cases hhe : ho f j = h
    · rw [if_pos (by rw [hhe]), bb_X3_cheapest_54, if_neg n10, e_R2, ob_s, t_32, ob_s, si_get (s := 31) si31 hrI.1 rfl (li_n 2) hj (by omega), ob_s, e2]
      by_cases hb : mbd f j = -1
      · have hs : spB f h j = false := by simp [spB, hb]
        rw [if_pos hb]
        exact ⟨I, rfl, same hs⟩
      · have hs : spB f h j = true := by simp [spB, hrn, hhe, hb]
        rw [if_neg hb, fI_X3_1 okV, ob_s, p2, if_neg (li_pos (by omega)), ob_s, fR_X3_0 okV, ob_s]
        show ∃ I', ((ab_len (S0, I, J, x) 1 192).bind _) = _ ∧ _
        rw [op_len sh_192, ob_s, if_neg (by rw [li_le (by omega) (by omega)]; omega), ob_s, ob_s]
        show ∃ I', ((ab_st (S0, I, J, x) 1 192 (nI (cn (spB f h) j)) (nI j)).bind _) = _ ∧ _
        rw [op_st _ sh_192 rfl (by omega) (by omega), ob_s, fI_X3_1 okV, ob_s, pI_X3_1 okV, ob_s, bb_X3_cheapest_115]
        have e1 : ab_u I 192 (cn (spB f h) j) (nI j) 191 1 = nI (cn (spB f h) j) := by rw [u_r (by omega)]; exact p2
        rw [e1, nI_1]
        refine ⟨_, rfl, fun r a c => ?_, ?_, ?_, ?_, fun i hi hsi => ?_⟩
        · rw [u_r a, u_r c]; exact p1 r a c
        · rw [u_e, cn_str hs, nI_1]
        · rw [u_k (by omega), u_r (by omega)]; exact p3
        · rw [u_k (by omega), u_r (by omega)]; exact p4
        · rw [u_r (by omega)]
          by_cases e : i = j
          · rw [e, u_e]
          · have hne : cn (spB f h) i ≠ cn (spB f h) j := fun q => e (cn_in hsi hs q)
            rw [u_k hne]; exact p5 i (by omega) hsi
    · have hs : spB f h j = false := by simp [spB, hhe]
      rw [if_neg (by rw [li_eq (by omega) (by omega)]; exact hhe), bb_X3_cheapest_53, bb_X3_cheapest_54, if_pos rfl]
      exact ⟨I, rfl, same hs⟩
theorem kp_pack (h : kp I I') (o : ∀ r, r ≠ 191 → r ≠ 192 → I2 r = I' r) : kp I I2 := by
  obtain ⟨k1, k2, k3, k4, k5, k6, k7, k8, k9⟩ := h
  refine ⟨fun r q1 q2 q3 => (o r (by omega) (by omega)).trans (k1 r q1 q2 q3), ?_, ?_, ?_, ?_, fun r q1 q2 => (o r (by omega) (by omega)).trans (k6 r q1 q2), (o 217 (by omega) (by omega)).trans k7, fun q q1 q2 => by rw [o 198 (by omega) (by omega)]; exact k8 q q1 q2, by rw [o 211 (by omega) (by omega)]; exact k9.1, by rw [o 212 (by omega) (by omega)]; exact k9.2⟩
  · unfold siI tI at k2 ⊢
    rw [o (41 + 1) (by omega) (by omega), o (41 + 3) (by omega) (by omega), o (41 + 5) (by omega) (by omega), o (41 + 7) (by omega) (by omega)]
    exact k2
  · unfold bI tI at k3 ⊢
    rw [o 175 (by omega) (by omega), o 177 (by omega) (by omega)]
    exact k3
  · unfold tI at k4 ⊢
    rw [o 182 (by omega) (by omega)]
    exact k4
  · unfold tI at k5 ⊢
    rw [o 196 (by omega) (by omega)]
    exact k5
theorem c_R7 : ab_fR (S0, I, J, x) 11 0 7 = some 191 := op_fR okC rfl
theorem c_cheapest (hc : mc I NH NY NE NR) (hg : mrg I NH NY NE NR) (hl : clR I NH NY NE NR) (hw : wff I NH NY NE f) (hr : sr I NY 31 f) {h y : Nat} (hh : h < NH) (hy : y < NY) :
    ∃ I' bo, dd_X3_cheapest 191 17 31 (nI h) (nI y) (S0, I, J, x) = some (boI bo, (S0, I', J, x)) ∧ (∀ r, r ≠ 191 → r ≠ 192 → I' r = I r) ∧ bst (bN f) (tyN I f 0) (tyN I f 1) (tN I y 0) (tN I y 1) (frN I f h 0) (frN I f h 1) (spA f h) bo := by
  have h8 := hc.2.1
  have h6 := hc.2.2.1
  have hA := spA_lt (f := f) h
  unfold dd_X3_cheapest
  rw [pI_X3_1 okV, ob_s, pI_X3_2 okV, ob_s, pI_X3_3 okV, ob_s]
  have p0 : spP I f h 0 (ab_u (ab_u (ab_u I 191 1 0) 191 2 (-1)) 191 3 119989) := by
    refine ⟨fun r a c => by rw [u_r a, u_r a, u_r a], ?_, ?_, u_e, fun i hi => by omega⟩
    · rw [u_k (by omega), u_k (by omega), u_e]; rfl
    · rw [u_k (by omega), u_e]
  obtain ⟨I1, n1, e1, q1⟩ := lp_ex0 (fun n k (z : Nat → Nat → Int32) => bb_X3_cheapest_19 n 191 17 31 (nI h) (nI y) k (S0, z, J, x)) 12 (by omega) (fun j z => spP I f h j z) (fun n j z hj hP => c_spots hl h8 hw hr hh (nI y) n j hj hP) _ p0
  obtain ⟨o1, a1, a2, a3, a4⟩ := q1
  have s2 : sam 199 205 I I1 := fun r a e => o1 r (by omega) (by omega)
  have hrI : sr I1 NY 31 f := sr_sam hr (fun r a e => o1 r (by omega) (by omega)) (s2 202 (by omega) (by omega))
  have hlI : clR I1 NH NY NE NR := clR_sam hl (fun r a e => o1 r (by omega) (by omega)) s2
  have T0 := tN_is hg hy (show 0 < 2 by omega)
  have T1 := tN_is hg hy (show 1 < 2 by omega)
  have F0 := frN_is hg hw hh (show 0 < 2 by omega)
  have F1 := frN_is hg hw hh (show 1 < 2 by omega)
  have t0 : gt I1 17 y 0 = nI (tN I y 0) := by
    rw [hlI.2.2.2.2.1 _ hy 0 (by omega)]
    unfold mt
    rw [s2 202 (by omega) (by omega)]
    exact T0.1
  have t1 : gt I1 17 y 1 = nI (tN I y 1) := by
    rw [hlI.2.2.2.2.1 _ hy 1 (by omega)]
    unfold mt
    rw [s2 202 (by omega) (by omega)]
    exact T1.1
  have l0 : lf I1 17 31 h 0 = nI (frN I f h 0) := by
    rw [sr_lf hlI hrI hh h8 (by omega), fre_I (s2 201 (by omega) (by omega)) (s2 202 (by omega) (by omega)), F0.1]
  have l1 : lf I1 17 31 h 1 = nI (frN I f h 1) := by
    rw [sr_lf hlI hrI hh h8 (by omega), fre_I (s2 201 (by omega) (by omega)) (s2 202 (by omega) (by omega)), F1.1]
  have d0 : (nI (tN I y 0) - nI (frN I f h 0)).toInt = (tN I y 0 : Int) - frN I f h 0 := pk_sub_toInt (by omega) (by omega)
  have d1 : (nI (tN I y 1) - nI (frN I f h 1)).toInt = (tN I y 1 : Int) - frN I f h 1 := pk_sub_toInt (by omega) (by omega)
  have ch := @c_choose I J x NH NY NE NR f hc hg hl hw hr h y hh hy (cn (spB f h) 12) 0 30 0 I1 (nI (tN I y 0) - nI (frN I f h 0)) (nI (tN I y 1) - nI (frN I f h 1)) none (by omega) (by have := cn_le (spB f h) 12; omega) o1 ⟨a1, fun i hi hs => a4 i hi hs⟩ (fun i hi => by simp at hi) (fun i hi => by simp at hi) (by rw [d0, smt_0]; omega) (by rw [d1, smt_0]; omega) ⟨a2, a3⟩ (fun t0 h0 => by cases h0)
  rw [smt_0] at ch
  obtain ⟨I2, bo, r1, r2, r3, r4, r5, r6⟩ := ch
  refine ⟨I2, bo, ?_, fun r a c => (r2.1 r a).trans (o1 r a c), ?_⟩
  · refine e1.trans ?_
    show bb_X3_cheapest_19 (n1 + 1) 191 17 31 (nI h) (nI y) (nI 12) (S0, I1, J, x) = _
    have r1' : dd_X3_choose 30 191 17 31 0 0 (nI (tN I y 0) - nI (frN I f h 0)) (nI (tN I y 1) - nI (frN I f h 1)) 0 (S0, I1, J, x) = some ((), (S0, I2, J, x)) := r1
    have g0 : dd_X10_get 20 (nI y) 0 (S0, I1, J, x) = some (gt I1 17 y 0, (S0, I1, J, x)) := cl_gett cl17 hlI.1 rfl li_0 (by omega) (by omega)
    have g1 : dd_X10_get 20 (nI y) 1 (S0, I1, J, x) = some (gt I1 17 y 1, (S0, I1, J, x)) := cl_gett cl17 hlI.1 rfl (li_n 1) (by omega) (by omega)
    rw [bb_X3_cheapest_19, if_pos li_12e, d_R1, ob_s, t_20, ob_s, g0, ob_s, e_rc, ob_s, si_left si31 hrI.1 cl17 hlI.1 rfl li_0 (by omega) (by omega), ob_s, d_R1, ob_s, t_20, ob_s, g1, ob_s, e_rc, ob_s, si_left si31 hrI.1 cl17 hlI.1 rfl (li_n 1) (by omega) (by omega), ob_s, rc_X3 okV, ob_s, t0, t1, l0, l1, r1', ob_s, fI_X3_2 okV, ob_s, r3.1]
  · have all : ∀ t, sbs t (spA f h) → cmp f h 0 0 t := fun t ht => ⟨fun i hi => by simp at hi, fun i hi => by
      have q := spA_bit h (ht i hi)
      exact Or.inr ⟨q.1, q.2, Nat.zero_le _⟩⟩
    cases bo with
    | none =>
      intro t ht hf
      obtain ⟨t1, w, _⟩ := r6 t (all t ht) hf
      cases w
    | some t =>
      rcases r5 with w | ⟨t1, w1, w2, w3⟩
      · cases w
      · cases w1
        exact ⟨w2, w3, fun t' ht' hf => by
          obtain ⟨t2, v1, v2⟩ := r6 t' (all t' ht') hf
          cases v1
          exact v2⟩
theorem q_cheapest (hi : Inv I J) (cd : Nat → Option Int32) (hcd : cd 0 = some 1) (a c2 : Int32) : Cal (dd_X11_cheapestEviction 0 a c2) (dd_X12_cheapestEviction 198 a c2) cd I J x := by
  obtain ⟨NH, NY, NE, NR, f, u, tp, H, b, S, w, c, m, rd⟩ := id hi
  obtain ⟨hc, hg, hl, hm⟩ := id w
  have h8 := hc.2.1
  have h6 := hc.2.2.1
  have nr0 := c_need (I := I) (J := J) (x := x) cl17.2.1.1 hl.2.1.1 (show NH < 1000 by omega) a
  have nr1 := c_need (I := I) (J := J) (x := x) cl17.2.2.1.1 hl.2.1.2.1 (show NY < 1000 by omega) c2
  cases ha : inN a NH with
  | false =>
    refine Cal_thr (v := 0) hi 0 1 hcd (by decide) ?_ (fun J' hJ => ?_)
    · unfold dd_X11_cheapestEviction
      rw [c_R1, ob_s, d_R0, ob_s, c_rc, ob_s, nr0, ob_s, ha]
      rfl
    · unfold dd_X12_cheapestEviction
      rw [m_rc, ob_s, m_noHost hc, ob_s, ha]
      rfl
  | true =>
    obtain ⟨h, hh, rfl⟩ := inN_ex ha (by omega)
    rw [ha] at nr0
    simp only [if_true] at nr0
    have mt1 : ∀ (I1 : Nat → Nat → Int32) (J' : Nat → Nat → Int64) (x' : Nat), mc I1 NH NY NE NR → dd_X12_noHost 198 (nI h) (S0, I1, J', x') = some (0, (S0, th I1 0, J', x')) := by
      intro I1 J' x' h
      rw [m_noHost h, ha]
      rfl
    cases hb : inN c2 NY with
    | false =>
      refine Cal_thr (v := 0) hi 0 1 hcd (by decide) ?_ (fun J' hJ => ?_)
      · unfold dd_X11_cheapestEviction
        rw [c_R1, ob_s, d_R0, ob_s, c_rc, ob_s, nr0, ob_s]
        show ((ab_fR (S0, I, J, x) 11 0 1).bind _) = _
        rw [c_R1, ob_s, d_R1, ob_s, c_rc, ob_s, nr1, ob_s, hb]
        rfl
      · unfold dd_X12_cheapestEviction
        rw [m_rc, ob_s, mt1 I J' _ hc, ob_s, if_pos rfl, m_rc, ob_s, m_noType (mc_sam hc (th_sam (by omega))), ob_s, hb, th_th]
        rfl
    | true =>
      obtain ⟨y, hy, rfl⟩ := inN_ex hb (by omega)
      rw [hb] at nr1
      simp only [if_true] at nr1
      obtain ⟨I1, bo, e1, o1, b1⟩ := @c_cheapest I J x NH NY NE NR f hc hg hl c.1.2.1 c.1.1 h y hh hy
      refine ⟨.inl (boI bo), I1, J, x, ?_, by omega, fun J' hJ => ?_⟩
      · unfold dd_X11_cheapestEviction
        rw [c_R1, ob_s, d_R0, ob_s, c_rc, ob_s, nr0, ob_s]
        show ((ab_fR (S0, I, J, x) 11 0 1).bind _) = _
        rw [c_R1, ob_s, d_R1, ob_s, c_rc, ob_s, nr1, ob_s]
        show ((ab_fR (S0, I, J, x) 11 0 7).bind _) = _
        rw [c_R7, ob_s, c_R1, ob_s, c_R2, ob_s, rc_X3 okV, ob_s, e1, ob_s]
      · have hf : J' 199 = f := (hJ 199 (by omega)).trans m.1
        have hj : J' = jr J' f := by
          have := jr_id J'
          rw [hf] at this
          exact this.symm
        have s3 : sam 199 205 I (th I1 0) := fun r a e => (th_off _ (by omega)).trans (o1 r (by omega) (by omega))
        obtain ⟨bo2, e2, b2⟩ := @m_cheap (th I1 0) J' x NH NY NE NR f (mc_sam hc s3) (mrg_sam hg s3) (wff_sam c.1.2.1 s3) h y hh hy
        have eN : ∀ y w, tN (th I1 0) y w = tN I y w := fun y w => by unfold tN mt; rw [s3 202 (by omega) (by omega)]
        have eH : ∀ y w, hN (th I1 0) y w = hN I y w := fun y w => by unfold hN mh; rw [s3 201 (by omega) (by omega)]
        have eL : ∀ h w, loN (th I1 0) f h w = loN I f h w := fun h w => by
          unfold loN
          exact sn_congr (fun i _ => by rw [eN])
        have eF : ∀ w, frN (th I1 0) f h w = frN I f h w := fun w => by unfold frN; rw [eH, eL]
        have eT : ∀ w, tyN (th I1 0) f w = tyN I f w := fun w => by funext i; exact eN _ _
        rw [eN, eN, eF, eF, eT, eT] at b2
        have eb := bst_un (spA_lt h) b1 b2
        rw [← hj, ← eb] at e2
        refine ⟨boI bo, th I1 0, J', ?_, Inv_kp hi (kp_th (kp_pack (kp_refl c.2.1) o1) 0) (fun r _ _ q => hJ r q), rfl, th_at _, rfl⟩
        unfold dd_X12_cheapestEviction
        rw [m_rc, ob_s, mt1 I1 J' _ (mc_sam hc (fun r a e => o1 r (by omega) (by omega))), ob_s, if_pos rfl, m_rc, ob_s, m_noType (mc_sam hc s3), ob_s, hb, th_th]
        exact e2
end EY
