/-! ===== pass ===== -/
section PB
variable {I I' I0 : Nat → Nat → Int32} {J J' : Nat → Nat → Int64} {x : Nat} {NH NY NE NR s d u tp : Nat} {f g : Nat → Int64} {H S : Nat → Nat → Int64} {b : Nat → Bool}
def hmN (I : Nat → Nat → Int32) (NH NY NE NR : Nat) : Nat → (Nat → Int64) → (Nat → Int64)
  | 0, f => f
  | k + 1, f => hmN I NH NY NE NR k (hmF I NH NY NE NR f)
def ecN (I : Nat → Nat → Int32) (NH NY NE NR : Nat) : Nat → (Nat → Int64) → Int32 → Int32
  | 0, _, a => a
  | k + 1, f, a => ecN I NH NY NE NR k (hmF I NH NY NE NR f) (a + bcf (eh I NY NE NR f))
theorem hmN_I (h : sam 201 207 I I') : ∀ k f, hmN I' NH NY NE NR k f = hmN I NH NY NE NR k f
  | 0, _ => rfl
  | k + 1, f => by rw [hmN, hmN, hmF_I h, hmN_I h k]
theorem ecN_I (h : sam 201 207 I I') : ∀ k f a, ecN I' NH NY NE NR k f a = ecN I NH NY NE NR k f a
  | 0, _, _ => rfl
  | k + 1, f, a => by rw [ecN, ecN, hmF_I h, eh_I h, ecN_I h k]
/-- one hour of the class -/
theorem c_hour (hc : mc I NH NY NE NR) (hg : mrg I NH NY NE NR) (hl : clR I NH NY NE NR) (h : InvC I J NH NY NE f u tp H b S) (hlt : nv (f 0) + 1 ≤ 9999) :
    ∃ I1 J1 I2, dd_X0_reckon 175 18 32 (S0, I, J, x) = some ((), (S0, I1, J, x)) ∧ dd_X0_charge 175 32 (S0, I1, J, x) = some ((), (S0, I1, J1, x)) ∧ dd_X8_nextHour 32 18 (S0, I1, J1, x) = some (eh I NY NE NR f, (S0, I2, J1, x)) ∧ InvC I2 J1 NH NY NE (hmF I NH NY NE NR f) u tp H b S ∧ hrow I I2 ∧ (∀ r, r ≠ 41 → J1 r = J r) := by
  have h6 := hc.2.2.1
  have h6e := hc.2.2.2.1
  obtain ⟨I1, e1, o1, b1, p1⟩ := @si_reckon I J x NH NY NE NR 32 f hc hg hl si31 (by omega) (by omega) h.1.2.1.2.2.1 h.1.1 h.2.1.2.2.1
  obtain ⟨J1, e2, k1, k2⟩ := @c_charge I1 J x b1 _ p1
  have s2 : sam 201 207 I I1 := onB_sam o1 (by omega)
  have o : osp f (blN I NY NR f NE) := blN_osp h6e
  have r1 : sr I1 NY 32 (blN I NY NR f NE) := sr_osp (sr_sam h.1.1 (onB_sam o1 (by omega)) (s2 204 (by omega) (by omega))) (by omega) (by omega) h6 o
  have w1 : wff I NH NY NE (blN I NY NR f NE) := wff_osp hg h6 h.1.2.1 o
  have e0 : blN I NY NR f NE 0 = f 0 := o 0 (by omega)
  have hlt' : nv (blN I NY NR f NE 0) + 1 < 20000 := by rw [e0]; omega
  obtain ⟨I2, e3, o3, r3⟩ := @si_hour I1 J1 x NH NY NE NR 32 (blN I NY NR f NE) si31 (by omega) (by omega) (mc_sam hc s2) (mrg_sam hg s2) (clR_sam hl (onB_sam o1 (by omega)) s2) (wff_sam w1 s2) r1 hlt'
  rw [hrF_I s2] at r3
  have hro : hrow I I2 := fun r hr => (o3 r (by omega)).trans (o1 r (by omega))
  have hb2 : bI I2 := by
    unfold bI tI at b1 ⊢
    rw [o3 176 (by omega), o3 178 (by omega)]
    exact b1
  have hm := hm_wff (NR := NR) hc hg h.1.2.1 (by omega)
  refine ⟨I1, J1, I2, e1, e2, e3, InvC_hrow h hro hb2 k1 ⟨r3, wff_sam hm.1 (fun r h1 h2 => hro r (by omega)), fun e he => ?_, by rw [hm.2]; omega⟩, hro, k1⟩
  · have q := k2 e he
    show J1 41 e = hrF I NH NY (blN I NY NR f NE) (8 + e)
    rw [q, hr_sp h6 (by omega)]
    have hs := h.1.2.2.1 e he
    have hs' : J 41 e = f (8 + e) := hs
    unfold blN
    by_cases c : e < NE
    · rw [if_pos (by omega), hs', show 8 + e - 8 = e by omega]
    · rw [if_neg (by omega), hs', mbill_0 hc hg h.1.2.1.2.2.1 (by omega) he]
      exact Int64.add_zero _
theorem W_hrow (w : W0 I NH NY NE NR) (o : hrow I I') : W0 I' NH NY NE NR := W0_sam w (fun r _ _ => o r (by omega)) (fun r _ _ => o r (by omega))
theorem c_passL {h : Nat} (hh : h ≤ 500) : ∀ (k n j : Nat) (a : Int32) (I : Nat → Nat → Int32) (J : Nat → Nat → Int64) (f : Nat → Int64), j + k = h → k < n → W0 I NH NY NE NR → InvC I J NH NY NE f u tp H b S → nv (f 0) + k ≤ 9999 →
    ∃ I' J', bb_X11_pass_62 n 0 (nI h) a (nI j) (S0, I, J, x) = some (.inl (ecN I NH NY NE NR k f a), (S0, I', J', x)) ∧ InvC I' J' NH NY NE (hmN I NH NY NE NR k f) u tp H b S ∧ hrow I I' ∧ (∀ r, r ≠ 41 → J' r = J r) := by
  intro k
  induction k with
  | zero =>
    intro n j a I J f h1 h2 w c hk
    obtain ⟨n, rfl⟩ : ∃ q, n = q + 1 := ⟨n - 1, by omega⟩
    refine ⟨I, J, ?_, c, fun _ _ => rfl, fun _ _ => rfl⟩
    rw [bb_X11_pass_62, if_pos (by rw [li_le (by omega) (by omega)]; omega)]
    rfl
  | succ k ih =>
    intro n j a I J f h1 h2 w c hk
    obtain ⟨n, rfl⟩ : ∃ q, n = q + 1 := ⟨n - 1, by omega⟩
    obtain ⟨I1, J1, I2, e1, e2, e3, c3, o3, k3⟩ := @c_hour I J x NH NY NE NR u tp f H S b w.1 w.2.1 w.2.2.1 c (by omega)
    have hm := hm_wff (NR := NR) w.1 w.2.1 c.1.2.1 (by omega)
    obtain ⟨I', J', e4, c4, o4, k4⟩ := ih n (j + 1) (a + bcf (eh I NY NE NR f)) I2 J1 (hmF I NH NY NE NR f) (by omega) (by omega) (W_hrow w o3) c3 (by rw [hm.2]; omega)
    have s2 : sam 201 207 I I2 := fun r h1 h2 => o3 r (by omega)
    refine ⟨I', J', ?_, ?_, fun r hr => (o4 r hr).trans (o3 r hr), fun r hr => (k4 r hr).trans (k3 r hr)⟩
    · rw [bb_X11_pass_62, if_neg (by rw [li_le (by omega) (by omega)]; omega), c_R5, ob_s, c_R1, ob_s, c_R2, ob_s, rc_X0 okB, ob_s, e1, ob_s, c_R5, ob_s, c_R2, ob_s, rc_X0 okB, ob_s, e2, ob_s, c_R2, ob_s, c_R1, ob_s, e_rc, ob_s, e3, ob_s, bc_is, ob_s, nI_1, e4, ecN_I s2]
      rfl
    · rw [hmN_I s2] at c4
      exact c4
theorem m_passL {h : Nat} (hh : h ≤ 500) : ∀ (k n j : Nat) (a : Int32) (I : Nat → Nat → Int32) (f : Nat → Int64), j + k = h → k < n → mc I NH NY NE NR → mrg I NH NY NE NR → wff I NH NY NE f → nv (f 0) + k ≤ 9999 →
    ∃ I', bb_X12_pass_69 n 200 (nI h) a (nI j) (S0, I, jr J f, x) = some (ecN I NH NY NE NR k f a, (S0, I', jr J (hmN I NH NY NE NR k f), x)) ∧ (∀ r, r ≠ 200 → I' r = I r) ∧ (∀ k, k ≠ 27 → I' 200 k = I 200 k) := by
  intro k
  induction k with
  | zero =>
    intro n j a I f h1 h2 hc hg hw hk
    obtain ⟨n, rfl⟩ : ∃ q, n = q + 1 := ⟨n - 1, by omega⟩
    refine ⟨I, ?_, fun _ _ => rfl, fun _ _ => rfl⟩
    rw [bb_X12_pass_69, if_pos (by rw [li_le (by omega) (by omega)]; omega)]
    rfl
  | succ k ih =>
    intro n j a I f h1 h2 hc hg hw hk
    obtain ⟨n, rfl⟩ : ∃ q, n = q + 1 := ⟨n - 1, by omega⟩
    have hm := hm_wff (NR := NR) hc hg hw (by omega)
    have s2 : sam 201 207 I (ev I (eh I NY NE NR f)) := ev_sam (by omega)
    obtain ⟨I', e4, o4, k4⟩ := ih n (j + 1) (a + bcf (eh I NY NE NR f)) (ev I (eh I NY NE NR f)) (hmF I NH NY NE NR f) (by omega) (by omega) (mc_sam hc s2) (mrg_sam hg s2) (wff_sam hm.1 s2) (by rw [hm.2]; omega)
    rw [ecN_I s2, hmN_I s2] at e4
    refine ⟨I', ?_, fun r hr => (o4 r hr).trans (u_r hr), fun q hq => (k4 q hq).trans (u_k hq)⟩
    have q := @m_hour I J x NH NY NE NR f hc hg hw (by omega)
    rw [bb_X12_pass_69, if_neg (by rw [li_le (by omega) (by omega)]; omega), m_rc, ob_s, q, ob_s, m_F27, ob_s]
    show ((dd_X12_bits (ev I (eh I NY NE NR f) 200 27) (S0, ev I (eh I NY NE NR f), jr J (hmF I NH NY NE NR f), x)).bind _) = _
    rw [ev_at, bits_eh, ob_s, nI_1, e4]
    rfl
theorem q_pass (hi : Inv I J) (cd : Nat → Option Int32) (hcd2 : cd 2 = some 1) (hcd1 : cd 1 = some 2) (a : Int32) : Cal (dd_X11_pass 0 a) (dd_X12_pass 200 a) cd I J x := by
  obtain ⟨NH, NY, NE, NR, f, u, tp, H, b, S, w, c, m, r⟩ := id hi
  have h6 : NY ≤ 6 := w.1.2.2.1
  have hk : isn (f 0) 20000 := c.1.2.1.1
  have hk9 := c.1.2.2.2
  have hclk : I 32 0 = nI (nv (f 0)) := c.1.1.2.1.trans (isn_32 hk)
  have wit : wi a.toInt64 1 500 = decide (1 ≤ a.toInt ∧ a.toInt ≤ 500) := by
    unfold wi
    have q1 : (a.toInt64 < 1) = (a.toInt < 1) := by rw [Int64.lt_iff_toInt_lt, Int32.toInt_toInt64]; rfl
    have q2 : ((500 : Int64) < a.toInt64) = (500 < a.toInt) := by rw [Int64.lt_iff_toInt_lt, Int32.toInt_toInt64]; rfl
    simp only [q1, q2]
    by_cases h1 : a.toInt < 1 <;> by_cases h2 : 500 < a.toInt <;> simp [h1, h2] <;> omega
  have l1 : (a < 1) = (a.toInt < 1) := by rw [Int32.lt_iff_toInt_lt]; rfl
  have l2 : (a ≤ 500) = (a.toInt ≤ 500) := by rw [Int32.le_iff_toInt_le]; rfl
  unfold Cal dd_X11_pass dd_X12_pass
  by_cases hin : 1 ≤ a.toInt ∧ a.toInt ≤ 500
  · have wt : wi a.toInt64 1 500 = true := by rw [wit]; exact decide_eq_true hin
    obtain ⟨h, hh, rfl⟩ : ∃ h, h ≤ 500 ∧ a = nI h := by
      refine ⟨a.toInt.toNat, by omega, Int32.toInt_inj.mp ?_⟩
      rw [nI_toInt (by omega)]; omega
    have h0 : 1 ≤ h := by
      have := hin.1
      rw [nI_toInt (by omega)] at this
      omega
    rw [if_neg (by rw [l1]; omega), if_pos (by rw [l2]; omega), c_R2, ob_s, e_F0, ob_s, hclk, li_add]
    have lg : ∀ J' : Nat → Nat → Int64, J' 201 = f → (lg_cmp (J' 201 0 + (nI h).toInt64) 9999 ≤ 0) = (nv (f 0) + h ≤ 9999) := by
      intro J' hJ'
      have e1 := hk.1
      rw [lc_le, hJ']
      generalize nv (f 0) = N at e1 hk9 ⊢
      rw [e1, nI_l (by omega), nI_l (by omega), lN_add, show (9999 : Int64) = lN 9999 from rfl]
      exact propext (lN_le (by omega) (by omega))
    have q0 : ∀ (I1 : Nat → Nat → Int32) (J' : Nat → Nat → Int64) (x' : Nat), dd_X12_throwsIf 200 0 1 (S0, th I1 0, J', x') = some (0, (S0, th I1 0, J', x')) := by
      intro I1 J' x'
      have q := @m_thr (th I1 0) J' x' false 1 (by decide) (th_at 0)
      simp only [Bool.false_eq_true, if_false] at q
      rw [th_th] at q
      exact q
    by_cases hle : nv (f 0) + h ≤ 9999
    · rw [if_pos (by rw [li_n 9999, li_le (by omega) (by omega)]; exact hle), c_R4, ob_s, ob_s, rc_X4 okH, ob_s]
      obtain ⟨I1, J1, e1, c1, o1, k1⟩ := @c_remember I J x NH NY NE u tp f H S b h6 c
      have w1 : W0 I1 NH NY NE NR := W0_sam w (fun r _ _ => o1 r (by omega)) (fun r _ _ => o1 r (by omega))
      rw [e1, ob_s]
      obtain ⟨I2, J2, e2, c2, o2, k2⟩ := @c_passL x NH NY NE NR (min (u + 1) 10) ((tp + 1) % 10) (cns f H) S b h hh h ab_fu 0 0 I1 J1 f (by omega) (ab_fu_big (by omega)) w1 c1 hle
      have s1 : sam 201 210 I I2 := fun r q1 q2 => (o2 r (by omega)).trans (o1 r (by omega))
      have e198 : I2 200 = I 200 := (o2 200 (by omega)).trans (o1 200 (by omega))
      refine ⟨_, I2, J2, x, e2, by omega, fun J' hJ => ?_⟩
      have jm : ∀ r, 175 ≤ r → r ≠ 220 → J' r = J r := fun r q1 q2 => (hJ r q2).trans ((k2 r (by omega)).trans (k1 r (by omega)))
      have hf : J' 201 = f := (jm 201 (by omega) (by omega)).trans m.1
      have m2 : InvM (th I2 0) J' f u H b S := InvM_cl m (by rw [th_offk _ (by omega), e198]) (by rw [th_off _ (by omega), o2 219 (by omega), o1 219 (by omega)]) (jm 201 (by omega) (by omega)) (jm 217 (by omega) (by omega)) (jm 218 (by omega) (by omega))
      obtain ⟨I3, J3, e3, m3, o3, ok3, k3⟩ := @m_keeps (th I2 0) J' x u f H S b m2 c.2.2.1.1
      have hf3 : J3 = jr J3 f := by
        have := jr_id J3
        rw [m3.1] at this
        exact this.symm
      have s3 : sam 201 207 I I3 := fun r q1 q2 => (o3 r (by omega)).trans ((th_off _ (by omega)).trans (s1 r q1 (by omega)))
      have s31 : sam 201 207 I1 I3 := fun r q1 q2 => (s3 r q1 q2).trans ((o1 r (by omega)).symm)
      obtain ⟨I4, e4, o4, ok4⟩ := @m_passL J3 x NH NY NE NR h hh h ab_fu 0 0 I3 f (by omega) (ab_fu_big (by omega)) (mc_sam w.1 s3) (mrg_sam w.2.1 s3) (wff_sam c.1.2.1 s3) hle
      rw [ecN_I s31, hmN_I s31, ← hf3] at e4
      have off4 : ∀ r, r ≠ 200 → I4 r = I2 r := fun r hr => (o4 r hr).trans ((o3 r hr).trans (th_off _ hr))
      have offk : ∀ k, k ≠ 0 → k ≠ 27 → k ≠ 29 → I4 200 k = I 200 k := fun k q0 q1 q2 => (ok4 k q1).trans ((ok3 k q2).trans ((th_offk _ q0).trans (congrFun e198 k)))
      refine ⟨_, I4, jr J3 (hmN I1 NH NY NE NR h f), ?_, ?_, ?_, ?_, rfl⟩
      · have q2 := @m_thr (th I2 0) J' x false 2 (by decide) (th_at 0)
        simp only [Bool.false_eq_true, if_false] at q2
        rw [m_P0, ob_s, m_within, ob_s, wt]
        simp only [if_true]
        rw [if_neg n10, bb_X12_pass_23, m_rc, ob_s, q0, ob_s, if_pos rfl, m_R1, ob_s, m_n0, ob_s, if_pos (by rw [lg J' hf]; exact hle), bb_X12_pass_52, m_rc, ob_s, q2, ob_s, th_th, if_pos rfl, m_rc, ob_s, e3, ob_s]
        exact e4
      · have w4 : W0 I4 NH NY NE NR := W0_sam w1 (fun r q1 q2 => (off4 r (by omega)).trans (o2 r (by omega))) (fun r q1 q2 => (off4 r (by omega)).trans (o2 r (by omega)))
        refine Inv_of w4 (InvC_md c2 (fun r q1 q2 => off4 r (by omega)) (fun r q1 q2 => off4 r (by omega)) (fun r q => ?_)) ⟨rfl, ⟨?_, fun k hk i hi2 => ?_⟩, fun t ht => ⟨?_, fun hb i hi2 => ?_⟩⟩ (ag_refl _) (Rdr_sam r (fun r q1 q2 => (off4 r (by omega)).trans ((o2 r (by omega)).trans (o1 r (by omega)))) ((off4 209 (by omega)).trans (s1 209 (by omega) (by omega))) (offk 10 (by omega) (by omega) (by omega)) (offk 17 (by omega) (by omega) (by omega)) ⟨congrFun ((off4 213 (by omega)).trans ((o2 213 (by omega)).trans (o1 213 (by omega)))) 0, congrFun ((off4 214 (by omega)).trans ((o2 214 (by omega)).trans (o1 214 (by omega)))) 0⟩)
        · rw [jr_off (by omega), k3 r (by omega), hJ r (by omega)]
        · rw [ok4 29 (by omega)]; exact m3.2.1.1
        · rw [jr_off (by omega)]; exact m3.2.1.2 k hk i hi2
        · rw [o4 219 (by omega)]; exact (m3.2.2 t ht).1
        · rw [jr_off (by omega)]; exact (m3.2.2 t ht).2 hb i hi2
      · rw [jr_off (by omega), k3 220 (by omega)]
      · rw [ok4 0 (by omega), ok3 0 (by omega), th_at]
    · rw [if_neg (by rw [li_n 9999, li_le (by omega) (by omega)]; exact hle)]
      refine ⟨.inr 1, I, J, x + 1, rfl, by omega, fun J' hJ => ⟨0, th I 2, J', ?_, Inv_kp hi (kp_th (kp_refl (Inv_Cst hi)) _) (fun r _ _ q => hJ r q), rfl, 2, hcd1, by decide, th_at _⟩⟩
      have q2 := @m_thr (th I 0) J' (x + 1) true 2 (by decide) (th_at 0)
      have hf : J' 201 = f := (hJ 201 (by omega)).trans m.1
      simp only [if_true] at q2
      rw [m_P0, ob_s, m_within, ob_s, wt]
      simp only [if_true]
      rw [if_neg n10, bb_X12_pass_23, m_rc, ob_s, q0, ob_s, if_pos rfl, m_R1, ob_s, m_n0, ob_s, if_neg (by rw [lg J' hf]; exact hle), bb_X12_pass_52, m_rc, ob_s, q2, ob_s, th_th]
      rfl
  · have wf : wi a.toInt64 1 500 = false := by rw [wit]; exact decide_eq_false hin
    refine ⟨.inr 2, I, J, x + 1, ?_, by omega, fun J' hJ => ⟨0, th I 1, J', ?_, Inv_kp hi (kp_th (kp_refl (Inv_Cst hi)) _) (fun r _ _ q => hJ r q), rfl, 1, hcd2, by decide, th_at _⟩⟩
    · by_cases h1 : a < 1
      · rw [if_pos h1]; rfl
      · rw [if_neg h1, if_neg (by rw [l2]; rw [l1] at h1; omega)]; rfl
    · have q2 := @m_thr (th I 0) J' (x + 1) true 1 (by decide) (th_at 0)
      simp only [if_true] at q2
      rw [m_P0, ob_s, m_within, ob_s, wf]
      simp only [Bool.false_eq_true, if_false, if_true]
      rw [bb_X12_pass_23, m_rc, ob_s, q2, ob_s, th_th]
      rfl
end PB
