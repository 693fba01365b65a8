/-! ===== the cheapest eviction: the call ===== -/
section EY
variable {I I' I0 I1 I2 I3 I4 : Nat → Nat → Int32} {J J' J1 J2 J3 J4 : Nat → Nat → Int64} {x : Nat} {NH NY NE NR s d u tp u' tp' : Nat} {f g f' : Nat → Int64} {H S H' : Nat → Nat → Int64} {b : Nat → Bool}
/-- the spots of the first j instances are noted -/
def spP (I0 : Nat → Nat → Int32) (f : Nat → Int64) (h j : Nat) (I : Nat → Nat → Int32) : Prop := (∀ r, r ≠ 192 → r ≠ 193 → r ≠ 194 → I r = I0 r) ∧ (tI I 193 12 4 ∧ I 193 3 = nI (cn (spB f h) j)) ∧ I 192 1 = -1 ∧ I 192 2 = nI 119989 ∧ ∀ i, i < j → spB f h i = true → spC I0 I f (cn (spB f h) i) i
/-- an instance is noted -/
theorem c_addSpot (hl : clR I NH NY NE NR) (hr : sr I NY 32 f) {j k y : Nat} (hj : j < 12) (hy : y < 6) (hT : tI I 193 12 4) (hk : I 193 3 = nI k) (h12 : k < 12) (e1 : gi I 32 j 1 = nI y) :
    ∃ I', dd_X3_addSpot 192 18 32 (nI j) (S0, I, J, x) = some ((), (S0, I', J, x)) ∧ (∀ r, r ≠ 193 → r ≠ 194 → I' r = I r) ∧ tI I' 193 12 4 ∧ I' 193 3 = nI (k + 1) ∧ (I' (193 + 1) (k * 4 + 0) = gt I 18 y 0 ∧ I' (193 + 1) (k * 4 + 1) = gt I 18 y 1 ∧ I' (193 + 1) (k * 4 + 2) = gi I 32 j 2 ∧ I' (193 + 1) (k * 4 + 3) = nI j) ∧ ∀ q, q < k * 4 → I' (193 + 1) q = I (193 + 1) q := by
  have G : ∀ (Iz : Nat → Nat → Int32), (∀ r, r ≠ 193 → r ≠ 194 → Iz r = I r) → ∀ (w : Nat) (ww : Int32), ww = nI w → w < 3 → dd_X10_get 21 (nI y) ww (S0, Iz, J, x) = some (gt I 18 y w, (S0, Iz, J, x)) := by
    intro Iz hz w ww hw h3
    have hC : clI Iz 18 := by
      have q := hl.1
      unfold clI tI at q ⊢
      rw [hz (18 + 1) (by omega) (by omega), hz (18 + 3) (by omega) (by omega), hz (18 + 5) (by omega) (by omega), hz (18 + 7) (by omega) (by omega), hz (18 + 9) (by omega) (by omega)]
      exact q
    have q := cl_gett (J := J) (x := x) cl17 hC (j := y) (f := w) rfl hw (by omega) h3
    unfold gt at q ⊢
    rw [hz (18 + 3 + 1) (by omega) (by omega)] at q
    exact q
  have L : ∀ (Iz : Nat → Nat → Int32), (∀ r, r ≠ 193 → r ≠ 194 → Iz r = I r) → dd_X10_get 33 (nI j) 2 (S0, Iz, J, x) = some (gi I 32 j 2, (S0, Iz, J, x)) := by
    intro Iz hz
    have hS : siI Iz 32 := by
      have q := hr.1
      unfold siI tI at q ⊢
      rw [hz (32 + 1) (by omega) (by omega), hz (32 + 3) (by omega) (by omega), hz (32 + 5) (by omega) (by omega), hz (32 + 7) (by omega) (by omega)]
      exact q
    have q := si_get (J := J) (x := x) si31 hS (j := j) (f := 2) rfl (li_n 2) hj (by omega)
    unfold gi at q ⊢
    rw [hz (32 + 1 + 1) (by omega) (by omega)] at q
    exact q
  obtain ⟨I1, hI1⟩ : ∃ K, K = ab_u I 193 3 (nI (k + 1)) := ⟨_, rfl⟩
  obtain ⟨I2, hI2⟩ : ∃ K, K = ab_u I1 (193 + 1) (k * 4 + 0) (gt I 18 y 0) := ⟨_, rfl⟩
  obtain ⟨I3, hI3⟩ : ∃ K, K = ab_u I2 (193 + 1) (k * 4 + 1) (gt I 18 y 1) := ⟨_, rfl⟩
  obtain ⟨I4, hI4⟩ : ∃ K, K = ab_u I3 (193 + 1) (k * 4 + 2) (gi I 32 j 2) := ⟨_, rfl⟩
  have o1 : ∀ r, r ≠ 193 → r ≠ 194 → I1 r = I r := fun r a c => by rw [hI1, u_r a]
  have o2 : ∀ r, r ≠ 193 → r ≠ 194 → I2 r = I r := fun r a c => by rw [hI2, u_r (by omega)]; exact o1 r a c
  have o3 : ∀ r, r ≠ 193 → r ≠ 194 → I3 r = I r := fun r a c => by rw [hI3, u_r (by omega)]; exact o2 r a c
  have o4 : ∀ r, r ≠ 193 → r ≠ 194 → I4 r = I r := fun r a c => by rw [hI4, u_r (by omega)]; exact o3 r a c
  have t1 : tI I1 193 12 4 := by
    unfold tI at hT ⊢
    rw [hI1, u_k (by omega), u_k (by omega)]
    exact hT
  have t2 : tI I2 193 12 4 := by
    unfold tI at t1 ⊢
    rw [hI2, u_r (by omega)]
    exact t1
  have t3 : tI I3 193 12 4 := by
    unfold tI at t2 ⊢
    rw [hI3, u_r (by omega)]
    exact t2
  have t4 : tI I4 193 12 4 := by
    unfold tI at t3 ⊢
    rw [hI4, u_r (by omega)]
    exact t3
  have z0 : dd_X10_insertRow 193 (nI k) (S0, I, J, x) = some ((), (S0, I1, J, x)) := by
    rw [tb_insert tbVs hT hk rfl (Nat.le_refl k) h12, Nat.sub_self, Nat.zero_mul, cp_0, hI1]
  have z1 : dd_X10_set 193 (nI k) 0 (gt I 18 y 0) (S0, I1, J, x) = some ((), (S0, I2, J, x)) := by
    rw [tb_set _ tbVs t1 rfl li_0 h12 (by omega), hI2]
  have z2 : dd_X10_set 193 (nI k) 1 (gt I 18 y 1) (S0, I2, J, x) = some ((), (S0, I3, J, x)) := by
    rw [tb_set _ tbVs t2 rfl (li_n 1) h12 (by omega), hI3]
  have z3 : dd_X10_set 193 (nI k) 2 (gi I 32 j 2) (S0, I3, J, x) = some ((), (S0, I4, J, x)) := by
    rw [tb_set _ tbVs t3 rfl (li_n 2) h12 (by omega), hI4]
  refine ⟨ab_u I4 (193 + 1) (k * 4 + 3) (nI j), ?_, fun r a c => by rw [u_r (by omega)]; exact o4 r a c, ?_, ?_, ⟨?_, ?_, ?_, u_e⟩, fun q hq => ?_⟩
  · unfold dd_X3_addSpot
    rw [e_R2, ob_s, t_32, ob_s, si_get (s := 32) si31 hr.1 rfl (li_n 1) hj (by omega), ob_s, e1, evR, ob_s, fI_X10_3 tbVs.1, ob_s, hk, ob_s, rc_X10 tbVs.1, ob_s, z0, ob_s, evR, ob_s, d_R1, ob_s, t_20, ob_s, G I1 o1 0 0 li_0 (by omega), ob_s, rc_X10 tbVs.1, ob_s, z1, ob_s, evR, ob_s, d_R1, ob_s, t_20, ob_s, G I2 o2 1 1 (li_n 1) (by omega), ob_s, rc_X10 tbVs.1, ob_s, z2, ob_s, evR, ob_s, e_R2, ob_s, t_32, ob_s, L I3 o3, ob_s, rc_X10 tbVs.1, ob_s, z3, ob_s, evR, ob_s, rc_X10 tbVs.1, ob_s, tb_set _ tbVs t4 rfl (li_n 3) h12 (by omega), ob_s]
  · unfold tI at t4 ⊢
    rw [u_r (by omega)]
    exact t4
  · rw [u_r (by omega), hI4, u_r (by omega), hI3, u_r (by omega), hI2, u_r (by omega), hI1, u_e]
  · rw [u_k (by omega), hI4, u_k (by omega), hI3, u_k (by omega), hI2, u_e]
  · rw [u_k (by omega), hI4, u_k (by omega), hI3, u_e]
  · rw [u_k (by omega), hI4, u_e]
  · rw [u_k (by omega), hI4, u_k (by omega), hI3, u_k (by omega), hI2, u_k (by omega), hI1, u_r (by omega)]
theorem c_spots (hg : mrg I0 NH NY NE NR) (hl : clR I0 NH NY NE NR) (h8 : NH ≤ 8) (h6 : NY ≤ 6) (hw : wff I0 NH NY NE f) (hr : sr I0 NY 32 f) {h : Nat} (hh : h < NH) (y : Int32) (n j : Nat) (hj : j < 12) (hP : spP I0 f h j I) :
    ∃ I', bb_X3_cheapest_21 (n + 1) 192 18 32 (nI h) y (nI j) (S0, I, J, x) = bb_X3_cheapest_21 n 192 18 32 (nI h) y (nI j + 1) (S0, I', J, x) ∧ spP I0 f h (j + 1) I' := by
  obtain ⟨p1, ⟨pt, p2⟩, p3, p4, p5⟩ := hP
  have s2 : sam 201 207 I0 I := fun r a e => p1 r (by omega) (by omega) (by omega)
  have hrI : sr I NY 32 f := sr_sam hr (fun r a e => p1 r (by omega) (by omega) (by omega)) (s2 204 (by omega) (by omega))
  have hlI : clR I NH NY NE NR := clR_sam hl (fun r a e => p1 r (by omega) (by omega) (by omega)) s2
  have hcn := cn_le (spB f h) j
  have same : spB f h j = false → spP I0 f h (j + 1) I := fun hs => ⟨p1, ⟨pt, by rw [p2, cn, hs]; rfl⟩, p3, p4, fun i hi hsi => by
    by_cases e : i = j
    · rw [e, hs] at hsi; cases hsi
    · exact p5 i (by omega) hsi⟩
  rw [bb_X3_cheapest_21, if_neg (li_12 hj), e_rc, ob_s, si_runsN si31 hj, ob_s, sr_ru hrI hj]
  cases hrn : rn f j with
  | false =>
    have hs : spB f h j = false := by simp [spB, hrn]
    exact ⟨I, rfl, same hs⟩
  | true =>
    simp only [if_true]
    have q := hrI.2.2.2.1 j hj hrn
    have wi := hw.2.2.1 j hj hrn
    have hho : ho f j < NH := wi.2.2.1.2
    have hty : ty f j < NY := wi.2.1.2
    have e3 : gi I 32 j 3 = nI (ho f j) := q.2.2.2.1.trans (isn_32 wi.2.2.1)
    have e2 : gi I 32 j 2 = mbd f j := q.2.2.1
    have e1 : gi I 32 j 1 = nI (ty f j) := q.2.1.trans (isn_32 wi.2.1)
    rw [if_neg n10, e_R2, ob_s, t_32, ob_s, si_get (s := 32) si31 hrI.1 rfl (li_n 3) hj (by omega), ob_s, e3]
    show ∃ I', (if nI (ho f j) = nI h then _ else _) = _ ∧ _
    by_cases hhe : ho f j = h
    · rw [if_pos (by rw [hhe]), bb_X3_cheapest_56, if_neg n10, e_R2, ob_s, t_32, ob_s, si_get (s := 32) si31 hrI.1 rfl (li_n 2) hj (by omega), ob_s, e2]
      by_cases hb : mbd f j = -1
      · have hs : spB f h j = false := by simp [spB, hb]
        rw [if_pos hb]
        exact ⟨I, rfl, same hs⟩
      · have hs : spB f h j = true := by simp [spB, hrn, hhe, hb]
        have tq0 := tN_is hg hty (show 0 < 2 by omega)
        have tq1 := tN_is hg hty (show 1 < 2 by omega)
        have t0 : gt I 18 (ty f j) 0 = nI (tyN I0 f 0 j) := by
          rw [hlI.2.2.2.2.1 _ hty 0 (by omega)]
          unfold mt
          rw [s2 204 (by omega) (by omega)]
          exact tq0.1
        have t1 : gt I 18 (ty f j) 1 = nI (tyN I0 f 1 j) := by
          rw [hlI.2.2.2.2.1 _ hty 1 (by omega)]
          unfold mt
          rw [s2 204 (by omega) (by omega)]
          exact tq1.1
        have eb : gi I 32 j 2 = nI (bN f j) := e2.trans (bN_is hw hj hs).1
        obtain ⟨I', a1, a2, a3, a4, a5, a6⟩ := @c_addSpot I J x NH NY NE NR f hlI hrI j (cn (spB f h) j) (ty f j) hj (by omega) pt p2 (by omega) e1
        rw [if_neg hb, rc_X3 okV, ob_s, a1, ob_s, bb_X3_cheapest_85]
        refine ⟨I', rfl, fun r b c d => (a2 r c d).trans (p1 r b c d), ⟨a3, by rw [a4, cn_str hs]⟩, ?_, ?_, fun i hi hsi => ?_⟩
        · rw [a2 192 (by omega) (by omega)]; exact p3
        · rw [a2 192 (by omega) (by omega)]; exact p4
        · by_cases e : i = j
          · rw [e]
            exact ⟨a5.1.trans t0, a5.2.1.trans t1, a5.2.2.1.trans eb, a5.2.2.2⟩
          · have hlt : cn (spB f h) i < cn (spB f h) j := by
              have := cn_mo (spB f h) (show i + 1 ≤ j by omega)
              rw [cn_str hsi] at this
              omega
            have k := p5 i (by omega) hsi
            unfold spC at k ⊢
            rw [a6 _ (by omega), a6 _ (by omega), a6 _ (by omega), a6 _ (by omega)]
            exact k
    · have hs : spB f h j = false := by simp [spB, hhe]
      rw [if_neg (by rw [li_eq (by omega) (by omega)]; exact hhe), bb_X3_cheapest_55, bb_X3_cheapest_56, if_pos rfl]
      exact ⟨I, rfl, same hs⟩
theorem kp_pack (h : kp I I') (o : ∀ r, r ≠ 192 → r ≠ 193 → r ≠ 194 → I2 r = I' r) (hT : tI I2 193 12 4) : kp I I2 := by
  obtain ⟨k1, k2, k3, k4, k5, k6, k7, k8, k9⟩ := h
  refine ⟨fun r q1 q2 q3 => (o r (by omega) (by omega) (by omega)).trans (k1 r q1 q2 q3), ?_, ?_, ?_, ⟨?_, hT⟩, fun r q1 q2 => (o r (by omega) (by omega) (by omega)).trans (k6 r q1 q2), (o 219 (by omega) (by omega) (by omega)).trans k7, fun q q1 q2 => by rw [o 200 (by omega) (by omega) (by omega)]; exact k8 q q1 q2, by rw [o 213 (by omega) (by omega) (by omega)]; exact k9.1, by rw [o 214 (by omega) (by omega) (by omega)]; exact k9.2⟩
  · unfold siI tI at k2 ⊢
    rw [o (42 + 1) (by omega) (by omega) (by omega), o (42 + 3) (by omega) (by omega) (by omega), o (42 + 5) (by omega) (by omega) (by omega), o (42 + 7) (by omega) (by omega) (by omega)]
    exact k2
  · unfold bI tI at k3 ⊢
    rw [o 176 (by omega) (by omega) (by omega), o 178 (by omega) (by omega) (by omega)]
    exact k3
  · unfold tI at k4 ⊢
    rw [o 183 (by omega) (by omega) (by omega)]
    exact k4
  · have k := k5.1
    unfold tI at k ⊢
    rw [o 198 (by omega) (by omega) (by omega)]
    exact k
theorem c_R7 : ab_fR (S0, I, J, x) 11 0 7 = some 192 := op_fR okC rfl
theorem c_cheapest (hc : mc I NH NY NE NR) (hg : mrg I NH NY NE NR) (hl : clR I NH NY NE NR) (hw : wff I NH NY NE f) (hr : sr I NY 32 f) (hT : tI I 193 12 4) {h y : Nat} (hh : h < NH) (hy : y < NY) :
    ∃ I' bo, dd_X3_cheapest 192 18 32 (nI h) (nI y) (S0, I, J, x) = some (boI bo, (S0, I', J, x)) ∧ (∀ r, r ≠ 192 → r ≠ 193 → r ≠ 194 → I' r = I r) ∧ tI I' 193 12 4 ∧ bst (bN f) (tyN I f 0) (tyN I f 1) (tN I y 0) (tN I y 1) (frN I f h 0) (frN I f h 1) (spA f h) bo := by
  have h8 := hc.2.1
  have h6 := hc.2.2.1
  have hA := spA_lt (f := f) h
  unfold dd_X3_cheapest
  rw [evR, ob_s, rc_X10 tbVs.1, ob_s, tb_clear tbVs, ob_s, pI_X3_1 okV, ob_s, pI_X3_2 okV, ob_s]
  have p0 : spP I f h 0 (ab_u (ab_u (ab_u (ro I (193 + 1) (fun b => if b < 12 * 4 then 0 else I (193 + 1) b)) 193 3 0) 192 1 (-1)) 192 2 119989) := by
    refine ⟨fun r a c d => by rw [u_r a, u_r a, u_r c, ro_off _ _ (by omega)], ⟨?_, ?_⟩, ?_, u_e, fun i hi => by omega⟩
    · unfold tI at hT ⊢
      rw [u_r (by omega), u_r (by omega), u_k (by omega), u_k (by omega), ro_off _ _ (by omega)]
      exact hT
    · rw [u_r (by omega), u_r (by omega), u_e]; rfl
    · rw [u_k (by omega), u_e]
  obtain ⟨I1, n1, e1, q1⟩ := lp_ex0 (fun n k (z : Nat → Nat → Int32) => bb_X3_cheapest_21 n 192 18 32 (nI h) (nI y) k (S0, z, J, x)) 12 (by omega) (fun j z => spP I f h j z) (fun n j z hj hP => c_spots hg hl h8 h6 hw hr hh (nI y) n j hj hP) _ p0
  obtain ⟨o1, ⟨aT, a1⟩, a2, a3, a4⟩ := q1
  have s2 : sam 201 207 I I1 := fun r a e => o1 r (by omega) (by omega) (by omega)
  have hrI : sr I1 NY 32 f := sr_sam hr (fun r a e => o1 r (by omega) (by omega) (by omega)) (s2 204 (by omega) (by omega))
  have hlI : clR I1 NH NY NE NR := clR_sam hl (fun r a e => o1 r (by omega) (by omega) (by omega)) s2
  have T0 := tN_is hg hy (show 0 < 2 by omega)
  have T1 := tN_is hg hy (show 1 < 2 by omega)
  have F0 := frN_is hg hw hh (show 0 < 2 by omega)
  have F1 := frN_is hg hw hh (show 1 < 2 by omega)
  have t0 : gt I1 18 y 0 = nI (tN I y 0) := by
    rw [hlI.2.2.2.2.1 _ hy 0 (by omega)]
    unfold mt
    rw [s2 204 (by omega) (by omega)]
    exact T0.1
  have t1 : gt I1 18 y 1 = nI (tN I y 1) := by
    rw [hlI.2.2.2.2.1 _ hy 1 (by omega)]
    unfold mt
    rw [s2 204 (by omega) (by omega)]
    exact T1.1
  have l0 : lf I1 18 32 h 0 = nI (frN I f h 0) := by
    rw [sr_lf hlI hrI hh h8 (by omega), fre_I (s2 203 (by omega) (by omega)) (s2 204 (by omega) (by omega)), F0.1]
  have l1 : lf I1 18 32 h 1 = nI (frN I f h 1) := by
    rw [sr_lf hlI hrI hh h8 (by omega), fre_I (s2 203 (by omega) (by omega)) (s2 204 (by omega) (by omega)), F1.1]
  have d0 : (nI (tN I y 0) - nI (frN I f h 0)).toInt = (tN I y 0 : Int) - frN I f h 0 := pk_sub_toInt (by omega) (by omega)
  have d1 : (nI (tN I y 1) - nI (frN I f h 1)).toInt = (tN I y 1 : Int) - frN I f h 1 := pk_sub_toInt (by omega) (by omega)
  have ch := @c_choose I J x NH NY NE NR f hc hg hw h y hh hy (cn (spB f h) 12) 0 30 0 I1 (nI (tN I y 0) - nI (frN I f h 0)) (nI (tN I y 1) - nI (frN I f h 1)) none (by omega) (by have := cn_le (spB f h) 12; omega) ⟨aT, a1, fun i hi hs => a4 i hi hs⟩ (fun i hi => by simp at hi) (fun i hi => by simp at hi) (by rw [d0, smt_0]; omega) (by rw [d1, smt_0]; omega) ⟨a2, a3⟩ (fun t0 h0 => by cases h0)
  rw [smt_0] at ch
  obtain ⟨I2, bo, r1, r2, r3, r4, r5, r6⟩ := ch
  refine ⟨I2, bo, ?_, fun r a c d => (r2 r a).trans (o1 r a c d), by unfold tI at aT ⊢; rw [r2 193 (by omega)]; exact aT, ?_⟩
  · refine e1.trans ?_
    show bb_X3_cheapest_21 (n1 + 1) 192 18 32 (nI h) (nI y) (nI 12) (S0, I1, J, x) = _
    have r1' : dd_X3_choose 30 192 0 0 (nI (tN I y 0) - nI (frN I f h 0)) (nI (tN I y 1) - nI (frN I f h 1)) 0 (S0, I1, J, x) = some ((), (S0, I2, J, x)) := r1
    have g0 : dd_X10_get 21 (nI y) 0 (S0, I1, J, x) = some (gt I1 18 y 0, (S0, I1, J, x)) := cl_gett cl17 hlI.1 rfl li_0 (by omega) (by omega)
    have g1 : dd_X10_get 21 (nI y) 1 (S0, I1, J, x) = some (gt I1 18 y 1, (S0, I1, J, x)) := cl_gett cl17 hlI.1 rfl (li_n 1) (by omega) (by omega)
    rw [bb_X3_cheapest_21, if_pos li_12e, d_R1, ob_s, t_20, ob_s, g0, ob_s, e_rc, ob_s, si_left si31 hrI.1 cl17 hlI.1 rfl li_0 (by omega) (by omega), ob_s, d_R1, ob_s, t_20, ob_s, g1, ob_s, e_rc, ob_s, si_left si31 hrI.1 cl17 hlI.1 rfl (li_n 1) (by omega) (by omega), ob_s, t0, t1, l0, l1, r1', ob_s, fI_X3_1 okV, ob_s, r3.1]
  · have all : ∀ t, sbs t (spA f h) → cmp f h 0 0 t := fun t ht => ⟨fun i hi => by simp at hi, fun i hi => by
      have q := spA_bit h (ht i hi)
      exact Or.inr ⟨q.1, q.2, Nat.zero_le _⟩⟩
    cases bo with
    | none =>
      intro t ht hf
      obtain ⟨t1, w, _⟩ := r6 t (all t ht) hf
      cases w
    | some t =>
      rcases r5 with w | ⟨t1, w1, w2, w3⟩
      · cases w
      · cases w1
        exact ⟨w2, w3, fun t' ht' hf => by
          obtain ⟨t2, v1, v2⟩ := r6 t' (all t' ht') hf
          cases v1
          exact v2⟩
theorem q_cheapest (hi : Inv I J) (cd : Nat → Option Int32) (hcd : cd 0 = some 1) (a c2 : Int32) : Cal (dd_X11_cheapestEviction 0 a c2) (dd_X12_cheapestEviction 200 a c2) cd I J x := by
  obtain ⟨NH, NY, NE, NR, f, u, tp, H, b, S, w, c, m, rd⟩ := id hi
  obtain ⟨hc, hg, hl, hm⟩ := id w
  have h8 := hc.2.1
  have h6 := hc.2.2.1
  have nr0 := c_need (I := I) (J := J) (x := x) cl17.2.1.1 hl.2.1.1 (show NH < 1000 by omega) a
  have nr1 := c_need (I := I) (J := J) (x := x) cl17.2.2.1.1 hl.2.1.2.1 (show NY < 1000 by omega) c2
  cases ha : inN a NH with
  | false =>
    refine Cal_thr (v := 0) hi 0 1 hcd (by decide) ?_ (fun J' hJ => ?_)
    · unfold dd_X11_cheapestEviction
      rw [c_R1, ob_s, d_R0, ob_s, c_rc, ob_s, nr0, ob_s, ha]
      rfl
    · unfold dd_X12_cheapestEviction
      rw [m_rc, ob_s, m_noHost hc, ob_s, ha]
      rfl
  | true =>
    obtain ⟨h, hh, rfl⟩ := inN_ex ha (by omega)
    rw [ha] at nr0
    simp only [if_true] at nr0
    have mt1 : ∀ (I1 : Nat → Nat → Int32) (J' : Nat → Nat → Int64) (x' : Nat), mc I1 NH NY NE NR → dd_X12_noHost 200 (nI h) (S0, I1, J', x') = some (0, (S0, th I1 0, J', x')) := by
      intro I1 J' x' h
      rw [m_noHost h, ha]
      rfl
    cases hb : inN c2 NY with
    | false =>
      refine Cal_thr (v := 0) hi 0 1 hcd (by decide) ?_ (fun J' hJ => ?_)
      · unfold dd_X11_cheapestEviction
        rw [c_R1, ob_s, d_R0, ob_s, c_rc, ob_s, nr0, ob_s]
        show ((ab_fR (S0, I, J, x) 11 0 1).bind _) = _
        rw [c_R1, ob_s, d_R1, ob_s, c_rc, ob_s, nr1, ob_s, hb]
        rfl
      · unfold dd_X12_cheapestEviction
        rw [m_rc, ob_s, mt1 I J' _ hc, ob_s, if_pos rfl, m_rc, ob_s, m_noType (mc_sam hc (th_sam (by omega))), ob_s, hb, th_th]
        rfl
    | true =>
      obtain ⟨y, hy, rfl⟩ := inN_ex hb (by omega)
      rw [hb] at nr1
      simp only [if_true] at nr1
      obtain ⟨I1, bo, e1, o1, oT, b1⟩ := @c_cheapest I J x NH NY NE NR f hc hg hl c.1.2.1 c.1.1 c.2.1.2.2.2.2.1.2 h y hh hy
      refine ⟨.inl (boI bo), I1, J, x, ?_, by omega, fun J' hJ => ?_⟩
      · unfold dd_X11_cheapestEviction
        rw [c_R1, ob_s, d_R0, ob_s, c_rc, ob_s, nr0, ob_s]
        show ((ab_fR (S0, I, J, x) 11 0 1).bind _) = _
        rw [c_R1, ob_s, d_R1, ob_s, c_rc, ob_s, nr1, ob_s]
        show ((ab_fR (S0, I, J, x) 11 0 7).bind _) = _
        rw [c_R7, ob_s, c_R1, ob_s, c_R2, ob_s, rc_X3 okV, ob_s, e1, ob_s]
      · have hf : J' 201 = f := (hJ 201 (by omega)).trans m.1
        have hj : J' = jr J' f := by
          have := jr_id J'
          rw [hf] at this
          exact this.symm
        have s3 : sam 201 207 I (th I1 0) := fun r a e => (th_off _ (by omega)).trans (o1 r (by omega) (by omega) (by omega))
        obtain ⟨bo2, e2, b2⟩ := @m_cheap (th I1 0) J' x NH NY NE NR f (mc_sam hc s3) (mrg_sam hg s3) (wff_sam c.1.2.1 s3) h y hh hy
        have eN : ∀ y w, tN (th I1 0) y w = tN I y w := fun y w => by unfold tN mt; rw [s3 204 (by omega) (by omega)]
        have eH : ∀ y w, hN (th I1 0) y w = hN I y w := fun y w => by unfold hN mh; rw [s3 203 (by omega) (by omega)]
        have eL : ∀ h w, loN (th I1 0) f h w = loN I f h w := fun h w => by
          unfold loN
          exact sn_congr (fun i _ => by rw [eN])
        have eF : ∀ w, frN (th I1 0) f h w = frN I f h w := fun w => by unfold frN; rw [eH, eL]
        have eT : ∀ w, tyN (th I1 0) f w = tyN I f w := fun w => by funext i; exact eN _ _
        rw [eN, eN, eF, eF, eT, eT] at b2
        have eb := bst_un (spA_lt h) b1 b2
        rw [← hj, ← eb] at e2
        refine ⟨boI bo, th I1 0, J', ?_, Inv_kp hi (kp_th (kp_pack (kp_refl c.2.1) o1 oT) 0) (fun r _ _ q => hJ r q), rfl, th_at _, rfl⟩
        unfold dd_X12_cheapestEviction
        rw [m_rc, ob_s, mt1 I1 J' _ (mc_sam hc (fun r a e => o1 r (by omega) (by omega) (by omega))), ob_s, if_pos rfl, m_rc, ob_s, m_noType (mc_sam hc s3), ob_s, hb, th_th]
        exact e2
end EY
