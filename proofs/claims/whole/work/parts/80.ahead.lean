/-! ===== predictions ===== -/
section AH
variable {I I' I0 : Nat → Nat → Int32} {J J' : Nat → Nat → Int64} {x : Nat} {NH NY NE NR s d u tp : Nat} {f g : Nat → Int64} {H S : Nat → Nat → Int64} {b : Nat → Bool}
/-- one hour ahead -/
theorem c_hour41 (hc : mc I NH NY NE NR) (hg : mrg I NH NY NE NR) (hl : clR I NH NY NE NR) (hw : wff I NH NY NE f) (hr : sr I NY 42 f) (hlt : nv (f 0) + 1 < 20000) :
    ∃ I2, dd_X8_nextHour 42 18 (S0, I, J, x) = some (eh I NY NE NR f, (S0, I2, J, x)) ∧ onl 42 I I2 ∧ sr I2 NY 42 (hmF I NH NY NE NR f) := by
  have h6 := hc.2.2.1
  have o : osp f (blN I NY NR f NE) := blN_osp hc.2.2.2.1
  have e0 : blN I NY NR f NE 0 = f 0 := o 0 (by omega)
  exact @si_hour I J x NH NY NE NR 42 (blN I NY NR f NE) si41 (by omega) (by omega) hc hg hl (wff_osp hg h6 hw o) (sr_osp hr (by omega) (by omega) h6 o) (by rw [e0]; exact hlt)
theorem onl_sam {lo hi : Nat} (o : onl s I I') (h : hi ≤ s ∨ s + 10 ≤ lo) : sam lo hi I I' := fun r h1 h2 => o r (by omega)
theorem c_aheadL {h y : Nat} (hh : h ≤ 200) (hy : y < NY) : ∀ (k n j : Nat) (I : Nat → Nat → Int32) (f : Nat → Int64), j + k = h → k < n → W0 I NH NY NE NR → wff I NH NY NE f → sr I NY 42 f → nv (f 0) + k < 20000 →
    ∃ I', bb_X11_priceAfter_46 n 0 (nI y) (nI h) (nI j) (S0, I, J, x) = some (.inl (hmN I NH NY NE NR k f (2 + y)).toInt32, (S0, I', J, x)) ∧ onl 42 I I' ∧ siI I' 42 := by
  intro k
  induction k with
  | zero =>
    intro n j I f h1 h2 w hw hr hk
    obtain ⟨n, rfl⟩ : ∃ q, n = q + 1 := ⟨n - 1, by omega⟩
    have h6 := w.1.2.2.1
    refine ⟨I, ?_, onl_refl 42 I, hr.1⟩
    rw [bb_X11_priceAfter_46, if_pos (by rw [li_le (by omega) (by omega)]; omega), c_R3, ob_s, fR_X8_4 si41.1, ob_s, rc_X10 si41.2.2.2.1.1, ob_s, si_getp si41 hr.1 rfl rfl (by omega), ob_s, hr.2.2.2.2.1 y hy]
    rfl
  | succ k ih =>
    intro n j I f h1 h2 w hw hr hk
    obtain ⟨n, rfl⟩ : ∃ q, n = q + 1 := ⟨n - 1, by omega⟩
    obtain ⟨I2, e2, o2, r2⟩ := @c_hour41 I J x NH NY NE NR f w.1 w.2.1 w.2.2.1 hw hr (by omega)
    have hm := hm_wff (NR := NR) w.1 w.2.1 hw (by omega)
    have s2 : sam 201 207 I I2 := onl_sam o2 (by omega)
    obtain ⟨I', e3, o3, r3⟩ := ih n (j + 1) I2 (hmF I NH NY NE NR f) (by omega) (by omega) (W0_sam w (fun r _ _ => o2 r (by omega)) (fun r _ _ => o2 r (by omega))) (wff_sam hm.1 s2) r2 (by rw [hm.2]; omega)
    refine ⟨I', ?_, onl_trans o2 o3, r3⟩
    rw [bb_X11_priceAfter_46, if_neg (by rw [li_le (by omega) (by omega)]; omega), c_R3, ob_s, c_R1, ob_s, rc_X8 si41.1, ob_s, e2, ob_s, nI_1, e3, hmN_I s2]
    rfl
theorem m_aheadL {h y : Nat} (hh : h ≤ 200) (hy : y < NY) : ∀ (k n j : Nat) (I : Nat → Nat → Int32) (f : Nat → Int64), j + k = h → k < n → mc I NH NY NE NR → mrg I NH NY NE NR → wff I NH NY NE f → nv (f 0) + k < 20000 →
    ∃ I' J', bb_X12_priceAfter_52 n 200 (nI y) (nI h) (nI j) (S0, I, jr J f, x) = some ((hmN I NH NY NE NR k f (2 + y)).toInt32, (S0, I', J', x)) ∧ (∀ r, r ≠ 200 → I' r = I r) ∧ (∀ k, k ≠ 27 → I' 200 k = I 200 k) ∧ (∀ r, r ≠ 201 → J' r = J r) ∧ ∀ i, i < 116 → J' 201 i = J 216 i := by
  intro k
  induction k with
  | zero =>
    intro n j I f h1 h2 hc hg hw hk
    obtain ⟨n, rfl⟩ : ∃ q, n = q + 1 := ⟨n - 1, by omega⟩
    have h6 := hc.2.2.1
    refine ⟨I, ab_cp (jr J f) 216 0 201 0 116, ?_, fun _ _ => rfl, fun _ _ => rfl, fun r hr => ?_, fun i hi => ?_⟩
    · have e2 : (2 : Int32) + nI y = nI (2 + y) := li_add 2 _
      rw [bb_X12_priceAfter_52, if_pos (by rw [li_le (by omega) (by omega)]; omega), m_R1, ob_s, e2, m_nowJ (by omega), ob_s, m_R28, ob_s, ob_s, m_copy2 sh_214 sh_199 (by omega) (by omega) (by omega) (by omega) (by omega), ob_s]
      rfl
    · rw [cpJ_off hr, jr_off hr]
    · have q := @cpJ_in (jr J f) 216 201 0 0 116 i hi
      rw [Nat.zero_add] at q
      rw [q, jr_off (by omega)]
  | succ k ih =>
    intro n j I f h1 h2 hc hg hw hk
    obtain ⟨n, rfl⟩ : ∃ q, n = q + 1 := ⟨n - 1, by omega⟩
    have hm := hm_wff (NR := NR) hc hg hw (by omega)
    have s2 : sam 201 207 I (ev I (eh I NY NE NR f)) := ev_sam (by omega)
    obtain ⟨I', J', e4, o4, k4, j4, l4⟩ := ih n (j + 1) (ev I (eh I NY NE NR f)) (hmF I NH NY NE NR f) (by omega) (by omega) (mc_sam hc s2) (mrg_sam hg s2) (wff_sam hm.1 s2) (by rw [hm.2]; omega)
    rw [hmN_I s2] at e4
    refine ⟨I', J', ?_, fun r hr => (o4 r hr).trans (u_r hr), fun q hq => (k4 q hq).trans (u_k hq), j4, l4⟩
    have q := @m_hour I J x NH NY NE NR f hc hg hw (by omega)
    rw [bb_X12_priceAfter_52, if_neg (by rw [li_le (by omega) (by omega)]; omega), m_rc, ob_s, q, ob_s, nI_1]
    exact e4
/-- the class's part when only the situation ahead has changed -/
theorem kp_41 (hc : Cst I) (o : onl 42 I I') (hs : siI I' 42) : kp I I' := by
  obtain ⟨a, a2, a3, a4, a5, a6⟩ := hc
  refine ⟨fun r h1 h2 h3 => o r (by omega), hs, ?_, ?_, ?_, fun r h1 h2 => o r (by omega), o 219 (by omega), fun k _ _ => by rw [o 200 (by omega)], by rw [o 213 (by omega)], by rw [o 214 (by omega)]⟩
  · unfold bI tI at a3 ⊢
    rw [o 176 (by omega), o 178 (by omega)]
    exact a3
  · unfold tI at a4 ⊢
    rw [o 183 (by omega)]
    exact a4
  · unfold tP tI at a5 ⊢
    rw [o 198 (by omega), o 193 (by omega)]
    exact a5
theorem kp_198 (h : kp I I') {I'' : Nat → Nat → Int32} (o : ∀ r, r ≠ 200 → I'' r = I' r) (k : ∀ k, k ≠ 0 → k ≠ 27 → I'' 200 k = I' 200 k) : kp I I'' := by
  obtain ⟨k1, k2, k3, k4, k5, k6, k7, k8, k9⟩ := h
  refine ⟨fun r q1 q2 q3 => (o r (by omega)).trans (k1 r q1 q2 q3), ?_, ?_, ?_, ?_, fun r q1 q2 => (o r (by omega)).trans (k6 r q1 q2), (o 219 (by omega)).trans k7, fun q q1 q2 => (k q q1 q2).trans (k8 q q1 q2), by rw [o 213 (by omega)]; exact k9.1, by rw [o 214 (by omega)]; exact k9.2⟩
  · unfold siI tI at k2 ⊢
    rw [o (42 + 1) (by omega), o (42 + 3) (by omega), o (42 + 5) (by omega), o (42 + 7) (by omega)]
    exact k2
  · unfold bI tI at k3 ⊢
    rw [o 176 (by omega), o 178 (by omega)]
    exact k3
  · unfold tI at k4 ⊢
    rw [o 183 (by omega)]
    exact k4
  · unfold tP tI at k5 ⊢
    rw [o 198 (by omega), o 193 (by omega)]
    exact k5
/-- only scratch has changed, and the row agrees as far as it reaches -/
theorem Inv_kpA (h : Inv I J) (k : kp I I') (j : ∀ r, r ≠ 51 → r ≠ 216 → r ≠ 220 → r ≠ 201 → J' r = J r) (a : ag (J 201) (J' 201)) : Inv I' J' := by
  obtain ⟨NH, NY, NE, NR, f, u, tp, H, b, S, w, c, m, r⟩ := h
  have hf : J 201 = f := m.1
  rw [hf] at a
  have c' := InvC_kp c k (fun r q1 q2 => j r q2 (by omega) (by omega) (by omega))
  refine Inv_of (W0_sam w (fun r q1 q2 => k.1 r (by omega) (by omega) (by omega)) (fun r q1 q2 => k.2.2.2.2.2.1 r q1 (by omega))) c' ⟨rfl, ⟨?_, fun q hq i hi => ?_⟩, fun t ht => ⟨?_, fun hb i hi => ?_⟩⟩ a (Rdr_sam r (fun r q1 q2 => k.1 r (by omega) (by omega) (by omega)) (k.2.2.2.2.2.1 209 (by omega) (by omega)) (k.2.2.2.2.2.2.2.1 10 (by omega) (by omega)) (k.2.2.2.2.2.2.2.1 17 (by omega) (by omega)) k.2.2.2.2.2.2.2.2)
  · rw [k.2.2.2.2.2.2.2.1 29 (by omega) (by omega)]; exact m.2.1.1
  · rw [j 217 (by omega) (by omega) (by omega) (by omega)]; exact m.2.1.2 q hq i hi
  · rw [k.2.2.2.2.2.2.1]; exact (m.2.2 t ht).1
  · rw [j 218 (by omega) (by omega) (by omega) (by omega)]; exact (m.2.2 t ht).2 hb i hi
theorem q_priceAfter (hi : Inv I J) (cd : Nat → Option Int32) (hcd : cd 0 = some 1) (hcd2 : cd 2 = some 2) (a c2 : Int32) : Cal (dd_X11_priceAfter 0 a c2) (dd_X12_priceAfter 200 a c2) cd I J x := by
  obtain ⟨NH, NY, NE, NR, f, u, tp, H, b, S, w, c, m, r⟩ := id hi
  have h6 : NY ≤ 6 := w.1.2.2.1
  have hk9 := c.1.2.2.2
  have wit : wi c2.toInt64 0 200 = decide (0 ≤ c2.toInt ∧ c2.toInt ≤ 200) := by
    unfold wi
    have q1 : (c2.toInt64 < 0) = (c2.toInt < 0) := by rw [Int64.lt_iff_toInt_lt, Int32.toInt_toInt64]; rfl
    have q2 : ((200 : Int64) < c2.toInt64) = (200 < c2.toInt) := by rw [Int64.lt_iff_toInt_lt, Int32.toInt_toInt64]; rfl
    simp only [q1, q2]
    by_cases h1 : c2.toInt < 0 <;> by_cases h2 : 200 < c2.toInt <;> simp [h1, h2] <;> omega
  have l1 : (c2 < 0) = (c2.toInt < 0) := by rw [Int32.lt_iff_toInt_lt]; rfl
  have l2 : (c2 ≤ 200) = (c2.toInt ≤ 200) := by rw [Int32.le_iff_toInt_le]; rfl
  unfold Cal dd_X11_priceAfter dd_X12_priceAfter
  have nr0 := c_need (I := I) (J := J) (x := x) cl17.2.2.1.1 w.2.2.1.2.1.2.1 (show NY < 1000 by omega) a
  rw [c_R1, ob_s, d_R1, ob_s, c_rc, ob_s, nr0, ob_s]
  cases h : inN a NY with
  | false =>
    refine ⟨.inr 0, I, J, x + 1, rfl, by omega, fun J' hJ => ⟨0, th I 1, J', ?_, Inv_kp hi (kp_th (kp_refl (Inv_Cst hi)) _) (fun r _ _ q => hJ r q), rfl, 1, hcd, by decide, th_at _⟩⟩
    rw [m_rc, ob_s, m_noType w.1, ob_s, h]
    rfl
  | true =>
    obtain ⟨y, hy, rfl⟩ := inN_ex h (by omega)
    simp only [if_true]
    by_cases hin : 0 ≤ c2.toInt ∧ c2.toInt ≤ 200
    · have wt : wi c2.toInt64 0 200 = true := by rw [wit]; exact decide_eq_true hin
      obtain ⟨q, hq, rfl⟩ : ∃ h, h ≤ 200 ∧ c2 = nI h := by
        refine ⟨c2.toInt.toNat, by omega, Int32.toInt_inj.mp ?_⟩
        rw [nI_toInt (by omega)]; omega
      rw [if_neg (by rw [l1]; omega), if_pos (by rw [l2]; omega), c_R3, ob_s, c_R2, ob_s, rc_X8 si41.1, ob_s]
      obtain ⟨I1, J1, e1, o1, q1, k1, r1⟩ := @RS_copy I J x NH NY NE 32 42 f si41 si31 (by omega) c.2.1.1 (by omega) (by omega) h6 c.1
      have w1 : W0 I1 NH NY NE NR := W0_sam w (fun r _ _ => o1 r (by omega)) (fun r _ _ => o1 r (by omega))
      rw [e1, ob_s]
      obtain ⟨I2, e2, o2, s2⟩ := @c_aheadL J1 x NH NY NE NR q y hq hy q ab_fu 0 I1 f (by omega) (ab_fu_big (by omega)) w1 r1.2.1 r1.1 (by omega)
      have o12 := onl_trans o1 o2
      refine ⟨_, I2, J1, x, e2, by omega, fun J' hJ => ?_⟩
      have jm : ∀ r, r ≠ 51 → r ≠ 220 → J' r = J r := fun r q1 q2 => (hJ r q2).trans (k1 r (by omega))
      have hf : J' 201 = f := (jm 201 (by omega) (by omega)).trans m.1
      have s3 : sam 201 207 I (th I2 0) := fun r h1 h2 => (th_off _ (by omega)).trans (o12 r (by omega))
      have s31 : sam 201 207 I1 (th I2 0) := fun r h1 h2 => (s3 r h1 h2).trans (o1 r (by omega)).symm
      have hj : ab_cp J' 201 0 216 0 116 = jr (ab_cp J' 201 0 216 0 116) f := by
        have := jr_id (ab_cp J' 201 0 216 0 116)
        rw [cpJ_off (by omega), hf] at this
        exact this.symm
      obtain ⟨I3, J3, e3, o3, k3, j3, l3⟩ := @m_aheadL (ab_cp J' 201 0 216 0 116) x NH NY NE NR q y hq hy q ab_fu 0 (th I2 0) f (by omega) (ab_fu_big (by omega)) (mc_sam w.1 s3) (mrg_sam w.2.1 s3) (wff_sam c.1.2.1 s3) (by omega)
      rw [← hj, hmN_I s31] at e3
      refine ⟨_, I3, J3, ?_, ?_, ?_, ?_, rfl⟩
      · have qt := @m_thr (th I2 0) J' x false 2 (by decide) (th_at 0)
        simp only [Bool.false_eq_true, if_false] at qt
        rw [m_rc, ob_s, m_noType (mc_sam w.1 (onl_sam o12 (by omega))), ob_s, h]
        simp only [Bool.not_true, Bool.false_eq_true, if_false, if_true]
        rw [m_within, ob_s, wt]
        simp only [if_true]
        rw [if_neg n10, bb_X12_priceAfter_26, m_rc, ob_s, qt, ob_s, th_th, if_pos rfl, m_R1, ob_s, m_R28, ob_s, m_copy2 sh_199 sh_214 (by omega) (by omega) (by omega) (by omega) (by omega), ob_s]
        exact e3
      · refine Inv_kpA hi (kp_198 (kp_41 c.2.1 o12 s2) (fun r hr => (o3 r hr).trans (th_off _ hr)) (fun k q1 q2 => (k3 k q2).trans (th_offk _ q1))) (fun r q1 q2 q3 q4 => ?_) (fun i hi2 => ?_)
        · rw [j3 r q4, cpJ_off q2, jm r q1 q3]
        · have q := @cpJ_in J' 201 216 0 0 116 i hi2
          rw [Nat.zero_add] at q
          rw [l3 i hi2, q, jm 201 (by omega) (by omega)]
      · rw [j3 220 (by omega), cpJ_off (by omega)]
      · rw [k3 0 (by omega), th_at]
    · have wf : wi c2.toInt64 0 200 = false := by rw [wit]; exact decide_eq_false hin
      refine ⟨.inr 2, I, J, x + 1, ?_, by omega, fun J' hJ => ⟨0, th I 2, J', ?_, Inv_kp hi (kp_th (kp_refl (Inv_Cst hi)) _) (fun r _ _ q => hJ r q), rfl, 2, hcd2, by decide, th_at _⟩⟩
      · by_cases h1 : c2 < 0
        · rw [if_pos h1]; rfl
        · rw [if_neg h1, if_neg (by rw [l2]; rw [l1] at h1; omega)]; rfl
      · have qt := @m_thr (th I 0) J' (x + 1) true 2 (by decide) (th_at 0)
        simp only [if_true] at qt
        rw [m_rc, ob_s, m_noType w.1, ob_s, h]
        simp only [Bool.not_true, Bool.false_eq_true, if_false, if_true]
        rw [m_within, ob_s, wf]
        simp only [Bool.false_eq_true, if_false, if_true]
        rw [bb_X12_priceAfter_26, m_rc, ob_s, qt, ob_s, th_th]
        rfl
/-- when an instance is evicted -/
def eaN (I : Nat → Nat → Int32) (NH NY NE NR i : Nat) : Nat → Nat → (Nat → Int64) → Int32
  | 0, _, _ => -1
  | k + 1, h, f => if ((eh I NY NE NR f >>> (nI i &&& 31)) &&& 1) = 0 then eaN I NH NY NE NR i k (h + 1) (hmF I NH NY NE NR f) else nI h
theorem eaN_I (hs : sam 201 207 I I') {i : Nat} : ∀ k h f, eaN I' NH NY NE NR i k h f = eaN I NH NY NE NR i k h f
  | 0, _, _ => rfl
  | k + 1, h, f => by rw [eaN, eaN, hmF_I hs, eh_I hs, eaN_I hs k]
theorem c_evL {i : Nat} : ∀ (k n h : Nat) (I : Nat → Nat → Int32) (f : Nat → Int64), h + k = 201 → k < n → W0 I NH NY NE NR → wff I NH NY NE f → sr I NY 42 f → nv (f 0) + k < 20000 →
    ∃ I', bb_X11_evictedAfter_18 n 0 (nI i) (nI h) (S0, I, J, x) = some (.inl (eaN I NH NY NE NR i k h f), (S0, I', J, x)) ∧ onl 42 I I' ∧ siI I' 42 := by
  intro k
  induction k with
  | zero =>
    intro n j I f h1 h2 w hw hr hk
    obtain ⟨n, rfl⟩ : ∃ q, n = q + 1 := ⟨n - 1, by omega⟩
    refine ⟨I, ?_, onl_refl 42 I, hr.1⟩
    rw [bb_X11_evictedAfter_18, if_pos (by rw [li_n 200, li_lt (by omega) (by omega)]; omega)]
    rfl
  | succ k ih =>
    intro n j I f h1 h2 w hw hr hk
    obtain ⟨n, rfl⟩ : ∃ q, n = q + 1 := ⟨n - 1, by omega⟩
    obtain ⟨I2, e2, o2, r2⟩ := @c_hour41 I J x NH NY NE NR f w.1 w.2.1 w.2.2.1 hw hr (by omega)
    have hm := hm_wff (NR := NR) w.1 w.2.1 hw (by omega)
    have s2 : sam 201 207 I I2 := onl_sam o2 (by omega)
    obtain ⟨I', e3, o3, r3⟩ := ih n (j + 1) I2 (hmF I NH NY NE NR f) (by omega) (by omega) (W0_sam w (fun r _ _ => o2 r (by omega)) (fun r _ _ => o2 r (by omega))) (wff_sam hm.1 s2) r2 (by rw [hm.2]; omega)
    rw [bb_X11_evictedAfter_18, if_neg (by rw [li_n 200, li_lt (by omega) (by omega)]; omega), c_R3, ob_s, c_R1, ob_s, rc_X8 si41.1, ob_s, e2, ob_s, eaN]
    by_cases hz : ((eh I NY NE NR f >>> (nI i &&& 31)) &&& 1) = 0
    · rw [if_pos hz, if_pos hz, nI_1]
      refine ⟨I', ?_, onl_trans o2 o3, r3⟩
      rw [e3, eaN_I s2]
    · rw [if_neg hz, if_neg hz]
      exact ⟨I2, rfl, o2, r2.1⟩
theorem has_eh {i : Nat} (hi : i < 12) (m : ab_Mm) : dd_X12_has (eh I NY NE NR f) (nI i) m = some (if ((eh I NY NE NR f >>> (nI i &&& 31)) &&& 1) = 0 then 0 else 1, m) := by
  obtain ⟨p, hp⟩ := eh_set (I := I) (NY := NY) (NE := NE) (NR := NR) f
  rw [hp, has_sets p hi, sets_bit p hi]
  cases p i <;> rfl
theorem m_ev68 {v : Int32} : ∃ J', bb_X12_evictedAfter_68 200 v (S0, I, J, x) = some (v, (S0, I, J', x)) ∧ (∀ r, r ≠ 201 → J' r = J r) ∧ ∀ i, i < 116 → J' 201 i = J 216 i := by
  refine ⟨ab_cp J 216 0 201 0 116, ?_, fun r hr => cpJ_off hr, fun i hi => ?_⟩
  · rw [bb_X12_evictedAfter_68, m_R28, ob_s, m_R1, ob_s, m_copy2 sh_214 sh_199 (by omega) (by omega) (by omega) (by omega) (by omega), ob_s]
  · have q := @cpJ_in J 216 201 0 0 116 i hi
    rw [Nat.zero_add] at q
    exact q
theorem m_evL {i : Nat} (hi : i < 12) : ∀ (k n h : Nat) (I : Nat → Nat → Int32) (f : Nat → Int64), h + k = 201 → k + 1 < n → mc I NH NY NE NR → mrg I NH NY NE NR → wff I NH NY NE f → nv (f 0) + k < 20000 →
    ∃ I' J', bb_X12_evictedAfter_29 n 200 (nI i) (-1) (nI h) (S0, I, jr J f, x) = some (eaN I NH NY NE NR i k h f, (S0, I', J', x)) ∧ (∀ r, r ≠ 200 → I' r = I r) ∧ (∀ k, k ≠ 27 → I' 200 k = I 200 k) ∧ (∀ r, r ≠ 201 → J' r = J r) ∧ ∀ i, i < 116 → J' 201 i = J 216 i := by
  intro k
  induction k with
  | zero =>
    intro n j I f h1 h2 hc hg hw hk
    obtain ⟨n, rfl⟩ : ∃ q, n = q + 1 := ⟨n - 1, by omega⟩
    obtain ⟨J', e, j1, l1⟩ := @m_ev68 I (jr J f) x (-1)
    refine ⟨I, J', ?_, fun _ _ => rfl, fun _ _ => rfl, fun r hr => (j1 r hr).trans (jr_off hr), fun i hi => (l1 i hi).trans (by rw [jr_off (by omega)])⟩
    rw [bb_X12_evictedAfter_29, if_pos (by rw [li_n 200, li_lt (by omega) (by omega)]; omega), e]
    rfl
  | succ k ih =>
    intro n j I f h1 h2 hc hg hw hk
    obtain ⟨n, rfl⟩ : ∃ q, n = q + 1 := ⟨n - 1, by omega⟩
    have hm := hm_wff (NR := NR) hc hg hw (by omega)
    have s2 : sam 201 207 I (ev I (eh I NY NE NR f)) := ev_sam (by omega)
    have q : dd_X12_hour 200 (S0, I, jr J f, x) = some ((), (S0, ev I (eh I NY NE NR f), jr J (hmF I NH NY NE NR f), x)) := @m_hour I J x NH NY NE NR f hc hg hw (by omega)
    rw [bb_X12_evictedAfter_29, if_neg (by rw [li_n 200, li_lt (by omega) (by omega)]; omega), if_pos rfl, m_rc, ob_s, q, ob_s, m_F27, ob_s, ev_at, has_eh hi, ob_s, eaN]
    by_cases hz : ((eh I NY NE NR f >>> (nI i &&& 31)) &&& 1) = 0
    · obtain ⟨I', J', e4, o4, k4, j4, l4⟩ := ih n (j + 1) (ev I (eh I NY NE NR f)) (hmF I NH NY NE NR f) (by omega) (by omega) (mc_sam hc s2) (mrg_sam hg s2) (wff_sam hm.1 s2) (by rw [hm.2]; omega)
      refine ⟨I', J', ?_, fun r hr => (o4 r hr).trans (u_r hr), fun q hq => (k4 q hq).trans (u_k hq), j4, l4⟩
      rw [if_pos hz, if_pos hz]
      simp only [if_true]
      rw [bb_X12_evictedAfter_61, nI_1, e4, eaN_I s2]
    · obtain ⟨n, rfl⟩ : ∃ q, n = q + 1 := ⟨n - 1, by omega⟩
      obtain ⟨J', e, j1, l1⟩ := @m_ev68 (ev I (eh I NY NE NR f)) (jr J (hmF I NH NY NE NR f)) x (nI j)
      refine ⟨ev I (eh I NY NE NR f), J', ?_, fun r hr => u_r hr, fun q hq => u_k hq, fun r hr => (j1 r hr).trans (jr_off hr), fun i hi => (l1 i hi).trans (by rw [jr_off (by omega)])⟩
      have nj : nI j ≠ -1 := nI_ne (by omega)
      rw [if_neg hz, if_neg hz, if_neg n10, bb_X12_evictedAfter_61, nI_1, bb_X12_evictedAfter_29, if_neg nj]
      by_cases hl : (200 : Int32) < nI (j + 1)
      · rw [if_pos hl, e]
      · rw [if_neg hl, e]
theorem q_evictedAfter (hi : Inv I J) (cd : Nat → Option Int32) (hcd : cd 0 = some 1) (a : Int32) : Cal (dd_X11_evictedAfter 0 a) (dd_X12_evictedAfter 200 a) cd I J x := by
  obtain ⟨NH, NY, NE, NR, f, u, tp, H, b, S, w, c, m, r⟩ := id hi
  have h6 : NY ≤ 6 := w.1.2.2.1
  have hk9 := c.1.2.2.2
  have hs : sr I NY 32 (J 201) := by rw [m.1]; exact c.1.1
  unfold Cal dd_X11_evictedAfter dd_X12_evictedAfter
  rw [c_rc, ob_s, c_inst hs, ob_s]
  cases h : inR (J 201) a with
  | false =>
    refine ⟨.inr 0, I, J, x + 1, rfl, by omega, fun J' hJ => ⟨0, th I 1, J', ?_, Inv_kp hi (kp_th (kp_refl (Inv_Cst hi)) _) (fun r _ _ q => hJ r q), rfl, 1, hcd, by decide, th_at _⟩⟩
    rw [m_rc, ob_s, m_noInstance, ob_s, hJ 201 (by omega), h]
    rfl
  | true =>
    obtain ⟨i, hi12, rfl⟩ := inN_ex ((Bool.and_eq_true _ _).mp h).1 (by omega)
    simp only [if_true]
    rw [c_R3, ob_s, c_R2, ob_s, rc_X8 si41.1, ob_s]
    obtain ⟨I1, J1, e1, o1, q1, k1, r1⟩ := @RS_copy I J x NH NY NE 32 42 f si41 si31 (by omega) c.2.1.1 (by omega) (by omega) h6 c.1
    have w1 : W0 I1 NH NY NE NR := W0_sam w (fun r _ _ => o1 r (by omega)) (fun r _ _ => o1 r (by omega))
    rw [e1, ob_s]
    obtain ⟨I2, e2, o2, s2⟩ := @c_evL J1 x NH NY NE NR i 200 ab_fu 1 I1 f (by omega) (ab_fu_big (by omega)) w1 r1.2.1 r1.1 (by omega)
    have o12 := onl_trans o1 o2
    refine ⟨_, I2, J1, x, e2, by omega, fun J' hJ => ?_⟩
    have jm : ∀ r, r ≠ 51 → r ≠ 220 → J' r = J r := fun r q1 q2 => (hJ r q2).trans (k1 r (by omega))
    have hf : J' 201 = f := (jm 201 (by omega) (by omega)).trans m.1
    have s3 : sam 201 207 I (th I2 0) := fun r h1 h2 => (th_off _ (by omega)).trans (o12 r (by omega))
    have s31 : sam 201 207 I1 (th I2 0) := fun r h1 h2 => (s3 r h1 h2).trans (o1 r (by omega)).symm
    have hj : ab_cp J' 201 0 216 0 116 = jr (ab_cp J' 201 0 216 0 116) f := by
      have := jr_id (ab_cp J' 201 0 216 0 116)
      rw [cpJ_off (by omega), hf] at this
      exact this.symm
    obtain ⟨I3, J3, e3, o3, k3, j3, l3⟩ := @m_evL (ab_cp J' 201 0 216 0 116) x NH NY NE NR i hi12 200 ab_fu 1 (th I2 0) f (by omega) (ab_fu_big (by omega)) (mc_sam w.1 s3) (mrg_sam w.2.1 s3) (wff_sam c.1.2.1 s3) (by omega)
    rw [← hj, eaN_I s31] at e3
    refine ⟨_, I3, J3, ?_, ?_, ?_, ?_, rfl⟩
    · rw [m_rc, ob_s, m_noInstance, ob_s, hf, ← m.1, h]
      simp only [Bool.not_true, Bool.false_eq_true, if_false, if_true]
      rw [m_R1, ob_s, m_R28, ob_s, m_copy2 sh_199 sh_214 (by omega) (by omega) (by omega) (by omega) (by omega), ob_s, m.1]
      exact e3
    · refine Inv_kpA hi (kp_198 (kp_41 c.2.1 o12 s2) (fun r hr => (o3 r hr).trans (th_off _ hr)) (fun k q1 q2 => (k3 k q2).trans (th_offk _ q1))) (fun r q1 q2 q3 q4 => ?_) (fun i hi2 => ?_)
      · rw [j3 r q4, cpJ_off q2, jm r q1 q3]
      · have q := @cpJ_in J' 201 216 0 0 116 i hi2
        rw [Nat.zero_add] at q
        rw [l3 i hi2, q, jm 201 (by omega) (by omega)]
    · rw [j3 220 (by omega), cpJ_off (by omega)]
    · rw [k3 0 (by omega), th_at]
end AH
