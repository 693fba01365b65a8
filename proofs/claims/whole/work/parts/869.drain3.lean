/-! ===== draining a host: the plan, and drainTo ===== -/
section DP
variable {I I' I0 I1 I2 I3 I4 : Nat → Nat → Int32} {J J' J1 J2 J3 J4 : Nat → Nat → Int64} {x : Nat} {NH NY NE NR s d u tp u' tp' : Nat} {f g f' : Nat → Int64} {H S H' : Nat → Nat → Int64} {b : Nat → Bool}
theorem onB'_is {h i : Nat} (hs : onB' f h i = true) : rn f i = true ∧ ho f i = h := by
  unfold onB' at hs
  simpa using hs
/-- the rooms ahead of the search -/
def rmF (I : Nat → Nat → Int32) (f : Nat → Int64) (h k w : Nat) : Nat := if k = h then 0 else frN I f k w
theorem rmF_rmR (hg : mrg I NH NY NE NR) (hw : wff I NH NY NE f) (h : Nat) : rmR I f NH h (rmF I f h) := fun k hk w hw2 => by
  have q := frN_is hg hw hk hw2
  unfold rmF
  refine ⟨?_, fun e => ?_, fun e => ?_⟩
  · split
    · omega
    · exact q.2
  · rw [if_neg e]; exact q.1
  · rw [if_pos e]
/-- the movers of the first j instances are noted -/
def mvP (I0 : Nat → Nat → Int32) (f : Nat → Int64) (h j : Nat) (I : Nat → Nat → Int32) : Prop := (∀ r, r ≠ 195 → r ≠ 196 → I r = I0 r) ∧ I 195 2 = nI (cn (onB' f h) j) ∧ ∀ i, i < j → onB' f h i = true → I 196 (cn (onB' f h) i) = nI i
theorem c_movers (h8 : NH ≤ 8) (hw : wff I0 NH NY NE f) (hr : sr I0 NY 32 f) {h : Nat} (hh : h < NH) (h5 : cn (onB' f h) 12 ≤ 5) (n j : Nat) (hj : j < 12) (hP : mvP I0 f h j I) :
    ∃ I', bb_X2_plan_8 (n + 1) 195 18 32 (nI h) (nI j) (S0, I, J, x) = bb_X2_plan_8 n 195 18 32 (nI h) (nI j + 1) (S0, I', J, x) ∧ mvP I0 f h (j + 1) I' := by
  obtain ⟨p1, p2, p5⟩ := hP
  have s2 : sam 201 207 I0 I := fun r a e => p1 r (by omega) (by omega)
  have hrI : sr I NY 32 f := sr_sam hr (fun r a e => p1 r (by omega) (by omega)) (s2 204 (by omega) (by omega))
  have hcn := cn_le (onB' f h) j
  have same : onB' f h j = false → mvP I0 f h (j + 1) I := fun hs => ⟨p1, by rw [p2, cn, hs]; rfl, fun i hi hsi => by
    by_cases e : i = j
    · rw [e, hs] at hsi; cases hsi
    · exact p5 i (by omega) hsi⟩
  rw [bb_X2_plan_8, if_neg (li_12 hj), e_rc, ob_s, si_runsN si31 hj, ob_s, sr_ru hrI hj]
  cases hrn : rn f j with
  | false =>
    have hs : onB' f h j = false := by simp [onB', hrn]
    exact ⟨I, rfl, same hs⟩
  | true =>
    simp only [if_true]
    have q := hrI.2.2.2.1 j hj hrn
    have wi := hw.2.2.1 j hj hrn
    have hho : ho f j < NH := wi.2.2.1.2
    have e3 : gi I 32 j 3 = nI (ho f j) := q.2.2.2.1.trans (isn_32 wi.2.2.1)
    rw [if_neg n10, e_R2, ob_s, t_32, ob_s, si_get (s := 32) si31 hrI.1 rfl (li_n 3) hj (by omega), ob_s, e3]
    show ∃ I', (if nI (ho f j) = nI h then _ else _) = _ ∧ _
    by_cases hhe : ho f j = h
    · have hs : onB' f h j = true := by simp [onB', hrn, hhe]
      have hlt : cn (onB' f h) j < 5 := by
        have h1 := cn_str hs
        have h2 := cn_mo (onB' f h) (show j + 1 ≤ 12 by omega)
        omega
      rw [if_pos (by rw [hhe]), bb_X2_plan_43, if_neg n10, fI_X2_2 okD, ob_s, p2, if_neg (li_pos (by omega)), ob_s, fR_X2_0 okD, ob_s]
      show ∃ I', ((ab_len (S0, I, J, x) 1 196).bind _) = _ ∧ _
      rw [op_len sh_194, ob_s, if_neg (by rw [li_le (by omega) (by omega)]; omega), ob_s, ob_s]
      show ∃ I', ((ab_st (S0, I, J, x) 1 196 (nI (cn (onB' f h) j)) (nI j)).bind _) = _ ∧ _
      rw [op_st _ sh_194 rfl (by omega) (by omega), ob_s, fI_X2_2 okD, ob_s, pI_X2_2 okD, ob_s, bb_X2_plan_90]
      have e1 : ab_u I 196 (cn (onB' f h) j) (nI j) 195 2 = nI (cn (onB' f h) j) := by rw [u_r (by omega)]; exact p2
      rw [e1, nI_1]
      refine ⟨_, rfl, fun r a c => ?_, ?_, fun i hi hsi => ?_⟩
      · rw [u_r a, u_r c]; exact p1 r a c
      · rw [u_e, cn_str hs, nI_1]
      · rw [u_r (by omega)]
        by_cases e : i = j
        · rw [e, u_e]
        · have hne : cn (onB' f h) i ≠ cn (onB' f h) j := fun q => e (cn_in hsi hs q)
          rw [u_k hne]; exact p5 i (by omega) hsi
    · have hs : onB' f h j = false := by simp [onB', hhe]
      rw [if_neg (by rw [li_eq (by omega) (by omega)]; exact hhe), bb_X2_plan_42, bb_X2_plan_43, if_pos rfl]
      exact ⟨I, rfl, same hs⟩
/-- the rooms of the first j hosts are noted -/
def rmP (I0 I1 : Nat → Nat → Int32) (f : Nat → Int64) (h j : Nat) (I : Nat → Nat → Int32) : Prop := (∀ r, r ≠ 199 → I r = I1 r) ∧ ∀ k, k < j → ∀ w, w < 2 → I 199 (k * 2 + w) = nI (rmF I0 f h k w)
theorem c_rooms (hc : mc I0 NH NY NE NR) (hg : mrg I0 NH NY NE NR) (hl : clR I0 NH NY NE NR) (hw : wff I0 NH NY NE f) (hr : sr I0 NY 32 f) {h : Nat} (hh : h < NH) (hI1 : ∀ r, r < 195 ∨ 200 ≤ r → I1 r = I0 r) (hT : tI I1 198 8 2) (n j : Nat) (hj : j < NH) (hP : rmP I0 I1 f h j I) :
    ∃ I', bb_X2_plan_99 (n + 1) 195 18 32 (nI h) (nI j) (S0, I, J, x) = bb_X2_plan_99 n 195 18 32 (nI h) (nI j + 1) (S0, I', J, x) ∧ rmP I0 I1 f h (j + 1) I' := by
  have h8 := hc.2.1
  obtain ⟨p1, p2⟩ := hP
  have o : ∀ r, r < 195 ∨ 200 ≤ r → I r = I0 r := fun r hr => (p1 r (by omega)).trans (hI1 r hr)
  have s2 : sam 201 207 I0 I := fun r a e => o r (by omega)
  have hlI : clR I NH NY NE NR := clR_sam hl (fun r a e => o r (by omega)) s2
  have e0 : I 19 3 = nI NH := hlI.2.1.1
  have tI1 : tI I 198 8 2 := by
    unfold tI at hT ⊢
    rw [p1 198 (by omega)]
    exact hT
  have fin : ∀ v0 v1 : Nat, v0 = rmF I0 f h j 0 → v1 = rmF I0 f h j 1 → rmP I0 I1 f h (j + 1) (ab_u (ab_u I (198 + 1) (j * 2 + 0) (nI v0)) (198 + 1) (j * 2 + 1) (nI v1)) := by
    intro v0 v1 hv0 hv1
    refine ⟨fun r hr => by rw [u_r hr, u_r hr]; exact p1 r hr, fun k hk w hw2 => ?_⟩
    by_cases e : k = j
    · rw [e]
      rcases (show w = 0 ∨ w = 1 by omega) with z | z
      · rw [z, u_k (by omega), ← hv0]; exact u_e
      · rw [z, ← hv1]; exact u_e
    · rw [u_k (by omega), u_k (by omega)]
      exact p2 k (by omega) w hw2
  have tI2 : ∀ v0 : Int32, tI (ab_u I (198 + 1) (j * 2 + 0) v0) 198 8 2 := by
    intro v0
    unfold tI at tI1 ⊢
    rw [u_r (by omega)]
    exact tI1
  rw [bb_X2_plan_99, d_R0, ob_s, fI_X10_3 cl17.2.1.1, ob_s, e0, if_neg (by rw [li_le (by omega) (by omega)]; omega), fR_X2_3 okD, ob_s]
  by_cases hjh : j = h
  · rw [if_pos (by rw [hjh]), bb_X2_plan_136]
    show ∃ I', ((ab_rc (S0, I, J, x) 10 198).bind _) = _ ∧ _
    rw [rc_X10 tbR.1, ob_s, tb_set _ tbR tI1 rfl li_0 (show j < 8 by omega) (by omega), ob_s, fR_X2_3 okD, ob_s, if_pos (by rw [hjh]), bb_X2_plan_164]
    show ∃ I', ((ab_rc (S0, _, J, x) 10 198).bind _) = _ ∧ _
    rw [rc_X10 tbR.1, ob_s, tb_set _ tbR (tI2 _) rfl (li_n 1) (show j < 8 by omega) (by omega), ob_s]
    exact ⟨_, rfl, fin 0 0 (by unfold rmF; rw [if_pos hjh]) (by unfold rmF; rw [if_pos hjh])⟩
  · have hne : ¬ nI j = nI h := by rw [li_eq (by omega) (by omega)]; exact hjh
    have hrI : sr I NY 32 f := sr_sam hr (fun r a e => o r (by omega)) (s2 204 (by omega) (by omega))
    have hr2 : sr (ab_u I (198 + 1) (j * 2 + 0) (nI (rmF I0 f h j 0))) NY 32 f := sr_sam hrI (fun r a e => u_r (by omega)) (u_r (by omega))
    have hl2 : clR (ab_u I (198 + 1) (j * 2 + 0) (nI (rmF I0 f h j 0))) NH NY NE NR := clR_sam hlI (fun r a e => u_r (by omega)) (fun r a e => u_r (by omega))
    have F0 := frN_is hg hw hj (show 0 < 2 by omega)
    have F1 := frN_is hg hw hj (show 1 < 2 by omega)
    have r0 : rmF I0 f h j 0 = frN I0 f j 0 := by unfold rmF; rw [if_neg hjh]
    have r1 : rmF I0 f h j 1 = frN I0 f j 1 := by unfold rmF; rw [if_neg hjh]
    have l0 : lf I 18 32 j 0 = nI (rmF I0 f h j 0) := by
      rw [sr_lf hlI hrI hj h8 (by omega), fre_I (s2 203 (by omega) (by omega)) (s2 204 (by omega) (by omega)), F0.1, r0]
    have l1 : lf (ab_u I (198 + 1) (j * 2 + 0) (nI (rmF I0 f h j 0))) 18 32 j 1 = nI (rmF I0 f h j 1) := by
      rw [sr_lf hl2 hr2 hj h8 (by omega), fre_I (u_r (by omega)) (u_r (by omega)), fre_I (s2 203 (by omega) (by omega)) (s2 204 (by omega) (by omega)), F1.1, r1]
    rw [if_neg hne, e_rc, ob_s, si_left si31 hrI.1 cl17 hlI.1 rfl li_0 (by omega) (by omega), ob_s, l0, bb_X2_plan_136]
    show ∃ I', ((ab_rc (S0, I, J, x) 10 198).bind _) = _ ∧ _
    rw [rc_X10 tbR.1, ob_s, tb_set _ tbR tI1 rfl li_0 (show j < 8 by omega) (by omega), ob_s, fR_X2_3 okD, ob_s, if_neg hne, e_rc, ob_s, si_left si31 hr2.1 cl17 hl2.1 rfl (li_n 1) (by omega) (by omega), ob_s, l1, bb_X2_plan_164]
    show ∃ I', ((ab_rc (S0, _, J, x) 10 198).bind _) = _ ∧ _
    rw [rc_X10 tbR.1, ob_s, tb_set _ tbR (tI2 _) rfl (li_n 1) (show j < 8 by omega) (by omega), ob_s]
    exact ⟨_, rfl, fin _ _ rfl rfl⟩
theorem c_plan (hc : mc I NH NY NE NR) (hg : mrg I NH NY NE NR) (hl : clR I NH NY NE NR) (hw : wff I NH NY NE f) (hr : sr I NY 32 f) (hT : tI I 198 8 2) {h : Nat} (hh : h < NH) (h5 : cn (onB' f h) 12 ≤ 5) :
    ∃ I', dd_X2_plan 195 18 32 (nI h) (S0, I, J, x) = some (if (drF (onB' f h) (tyT I f) NH 12 (rmF I f h)).isSome then 1 else 0, (S0, I', J, x)) ∧ (∀ r, r < 195 ∨ 200 ≤ r → I' r = I r) ∧ mvs I' (onB' f h) ∧ tI I' 198 8 2 ∧ (∀ B, drF (onB' f h) (tyT I f) NH 12 (rmF I f h) = some B → ∀ i, i < 12 → onB' f h i = true → I' 197 (cn (onB' f h) i) = nI (B i)) := by
  have h8 := hc.2.1
  unfold dd_X2_plan
  rw [pI_X2_2 okD, ob_s]
  have p0 : mvP I f h 0 (ab_u I 195 2 0) := ⟨fun r a c => u_r a, u_e, fun i hi => by omega⟩
  obtain ⟨I1, n1, e1, q1⟩ := lp_ex0 (fun n k (z : Nat → Nat → Int32) => bb_X2_plan_8 n 195 18 32 (nI h) k (S0, z, J, x)) 12 (by omega) (fun j z => mvP I f h j z) (fun n j z hj hP => c_movers h8 hw hr hh h5 n j hj hP) _ p0
  obtain ⟨o1, a1, a2⟩ := q1
  have hI1 : ∀ r, r < 195 ∨ 200 ≤ r → I1 r = I r := fun r hr => o1 r (by omega) (by omega)
  have hT1 : tI I1 198 8 2 := by
    unfold tI at hT ⊢
    rw [o1 198 (by omega) (by omega)]
    exact hT
  obtain ⟨I2, n2, e2, q2⟩ := lp_ex0 (fun n k (z : Nat → Nat → Int32) => bb_X2_plan_99 n 195 18 32 (nI h) k (S0, z, J, x)) NH (by omega) (fun j z => rmP I I1 f h j z) (fun n j z hj hP => c_rooms hc hg hl hw hr hh hI1 hT1 n j hj hP) I1 ⟨fun _ _ => rfl, fun k hk => by omega⟩
  obtain ⟨o2, b2⟩ := q2
  have hI2 : ∀ r, r < 195 ∨ 200 ≤ r → I2 r = I r := fun r hr => (o2 r (by omega)).trans (hI1 r hr)
  have hT2 : tI I2 198 8 2 := by
    unfold tI at hT1 ⊢
    rw [o2 198 (by omega)]
    exact hT1
  have hm2 : mvs I2 (onB' f h) := by
    refine ⟨by rw [o2 195 (by omega)]; exact a1, fun i hi hs => by rw [o2 196 (by omega)]; exact a2 i hi hs⟩
  obtain ⟨I3, r1, r2, r3, r4, r5⟩ := @c_place I J x NH NY NE NR f hc hg hl hw hr (onB' f h) h5 (fun i _ hs => (onB'_is hs).1) 12 30 I2 (rmF I f h) (by omega) (by omega) hI2 hm2 hT2 b2 (fun k hk w hw2 => (rmF_rmR hg hw h k hk w hw2).1)
  refine ⟨I3, ?_, fun r hr => (r2 r (by omega) (by omega)).trans (hI2 r hr), ?_, ?_, fun B hB i hi hs => r5 B hB i (by omega) hi hs⟩
  · refine e1.trans ?_
    show bb_X2_plan_8 (n1 + 1) 195 18 32 (nI h) (nI 12) (S0, I1, J, x) = _
    rw [bb_X2_plan_8, if_pos li_12e]
    refine e2.trans ?_
    show bb_X2_plan_99 (n2 + 1) 195 18 32 (nI h) (nI NH) (S0, I2, J, x) = _
    have e0 : I2 19 3 = nI NH := by rw [hI2 19 (by omega)]; exact hl.2.1.1
    have r1' : dd_X2_place 30 195 18 32 0 (S0, I2, J, x) = _ := r1
    rw [bb_X2_plan_99, d_R0, ob_s, fI_X10_3 cl17.2.1.1, ob_s, e0, if_pos (le_self _), r1', ob_s]
    exact b1_ok _ _ _
  · unfold mvs at hm2 ⊢
    rw [r2 195 (by omega) (by omega), r2 196 (by omega) (by omega)]
    exact hm2
  · unfold tI at hT2 ⊢
    rw [r2 198 (by omega) (by omega)]
    exact hT2
/-- where the plan sends an instance -/
theorem c_targetOf {on : Nat → Bool} {B : Nat → Nat} (h5 : cn on 12 ≤ 5) (hm : mvs I on) (hB : ∀ i, i < 12 → on i = true → I 197 (cn on i) = nI (B i)) {i : Nat} (hi : i < 12) (hon : on i = true) : dd_X2_targetOf 195 (nI i) (S0, I, J, x) = some (nI (B i), (S0, I, J, x)) := by
  have hlt : cn on i < cn on 12 := by
    have h1 := cn_str hon
    have h2 := cn_mo on (show i + 1 ≤ 12 by omega)
    omega
  have loop : ∀ (k n j : Nat), j + k = cn on i → k < n → bb_X2_targetOf_2 n 195 (nI i) (nI j) (S0, I, J, x) = some (nI (B i), (S0, I, J, x)) := by
    intro k
    induction k with
    | zero =>
      intro n j h1 h2
      obtain ⟨n, rfl⟩ : ∃ z, n = z + 1 := ⟨n - 1, by omega⟩
      rw [bb_X2_targetOf_2, fI_X2_2 okD, ob_s, hm.1, if_neg (by rw [li_le (by omega) (by omega)]; omega), fR_X2_0 okD, ob_s]
      show ((ab_len (S0, I, J, x) 1 196).bind _) = _
      rw [op_len sh_194, ob_s, if_neg (by rw [li_le (by omega) (by omega)]; omega), fR_X2_1 okD, ob_s]
      show ((ab_len (S0, I, J, x) 1 197).bind _) = _
      rw [op_len sh_195, ob_s, if_neg (by rw [li_le (by omega) (by omega)]; omega), ob_s]
      show ((ab_ld (S0, I, J, x) 1 196 (nI j)).bind _) = _
      have e : j = cn on i := by omega
      rw [op_ld sh_194 rfl (by omega) (by omega), ob_s, e, hm.2 i hi hon, if_pos rfl, ob_s]
      show ((ab_ld (S0, I, J, x) 1 197 (nI (cn on i))).bind _) = _
      rw [op_ld sh_195 rfl (by omega) (by omega), ob_s, hB i hi hon]
    | succ k ih =>
      intro n j h1 h2
      obtain ⟨n, rfl⟩ : ∃ z, n = z + 1 := ⟨n - 1, by omega⟩
      obtain ⟨i', hi', hon', hc'⟩ := cn_ex on 12 j (by omega)
      rw [bb_X2_targetOf_2, fI_X2_2 okD, ob_s, hm.1, if_neg (by rw [li_le (by omega) (by omega)]; omega), fR_X2_0 okD, ob_s]
      show ((ab_len (S0, I, J, x) 1 196).bind _) = _
      rw [op_len sh_194, ob_s, if_neg (by rw [li_le (by omega) (by omega)]; omega), fR_X2_1 okD, ob_s]
      show ((ab_len (S0, I, J, x) 1 197).bind _) = _
      rw [op_len sh_195, ob_s, if_neg (by rw [li_le (by omega) (by omega)]; omega), ob_s]
      show ((ab_ld (S0, I, J, x) 1 196 (nI j)).bind _) = _
      have hne : i' ≠ i := fun e => by rw [e] at hc'; omega
      have e2 : I 196 j = nI i' := by rw [← hc']; exact hm.2 i' hi' hon'
      rw [op_ld sh_194 rfl (by omega) (by omega), ob_s, e2, if_neg (by rw [li_eq (by omega) (by omega)]; exact hne), nI_1]
      exact ih n (j + 1) (by omega) (by omega)
  exact loop (cn on i) ab_fu 0 (by omega) (ab_fu_big (by omega))
theorem c_R8 : ab_fR (S0, I, J, x) 11 0 8 = some 195 := op_fR okC rfl
/-- the rows of the drainage are free -/
theorem kp_drain (h : kp I I') (o : ∀ r, r < 195 ∨ 200 ≤ r → I2 r = I' r) (hT : tI I2 198 8 2) : kp I I2 := by
  obtain ⟨k1, k2, k3, k4, k5, k6, k7, k8, k9⟩ := h
  refine ⟨fun r q1 q2 q3 => (o r (by omega)).trans (k1 r q1 q2 q3), ?_, ?_, ?_, ⟨hT, by have k := k5.2; unfold tI at k ⊢; rw [o 193 (by omega)]; exact k⟩, fun r q1 q2 => (o r (by omega)).trans (k6 r q1 q2), (o 219 (by omega)).trans k7, fun q q1 q2 => by rw [o 200 (by omega)]; exact k8 q q1 q2, by rw [o 213 (by omega)]; exact k9.1, by rw [o 214 (by omega)]; exact k9.2⟩
  · unfold siI tI at k2 ⊢
    rw [o (42 + 1) (by omega), o (42 + 3) (by omega), o (42 + 5) (by omega), o (42 + 7) (by omega)]
    exact k2
  · unfold bI tI at k3 ⊢
    rw [o 176 (by omega), o 178 (by omega)]
    exact k3
  · unfold tI at k4 ⊢
    rw [o 183 (by omega)]
    exact k4
theorem tyT_I (h : I' 204 = I 204) : tyT I' f = tyT I f := by
  funext i w
  unfold tyT tN mt
  rw [h]
theorem rmF_I (h1 : I' 203 = I 203) (h2 : I' 204 = I 204) (h : Nat) : rmF I' f h = rmF I f h := by
  have eN : ∀ y w, tN I' y w = tN I y w := fun y w => by unfold tN mt; rw [h2]
  have eH : ∀ y w, hN I' y w = hN I y w := fun y w => by unfold hN mh; rw [h1]
  have eL : ∀ h w, loN I' f h w = loN I f h w := fun h w => by
    unfold loN
    exact sn_congr (fun i _ => by rw [eN])
  funext k w
  unfold rmF frN
  rw [eH, eL]
/-- the model's whole search -/
theorem m_drainAll (hc : mc I NH NY NE NR) (hg : mrg I NH NY NE NR) (hw : wff I NH NY NE f) (hf : J 201 = f) {h : Nat} (hh : h < NH) :
    ∃ I', dd_X12_drains 30 200 (nI h) (sets (onB' f h)) 0 (S0, I, J, x) = some (if (drF (onB' f h) (tyT I f) NH 12 (rmF I f h)).isSome then 1 else 0, (S0, I', J, x)) ∧ (∀ r, r ≠ 215 → I' r = I r) ∧ (∀ B, drF (onB' f h) (tyT I f) NH 12 (rmF I f h) = some B → ∀ i, i < 12 → onB' f h i = true → I' 215 i = nI (B i)) := by
  have h8 := hc.2.1
  have hj : jr J f = J := by
    have := jr_id J
    rw [hf] at this
    exact this
  obtain ⟨I', r1, r2, r3, r4⟩ := @m_drains I J x NH NY NE NR hc hg h hh (onB' f h) (tyT I f) (fun i hi hs w hw2 => (tN_is hg (ty_lt hw.2.2.1 hi (onB'_is hs).1) hw2).2.1) 12 30 I f (rmF I f h) (by omega) (by omega) (fun _ _ _ => rfl) hw.2.2.1 (rmF_rmR hg hw h) (fun i hi hs => ⟨(onB'_is hs).1, fun _ => rfl⟩) (fun i _ hi hs => by
    have q := onB'_is hs
    have wi := hw.2.2.1 i hi q.1
    rw [← q.2]
    exact wi.2.2.1.1)
  rw [hj] at r1
  exact ⟨I', r1, r2, fun B hB i hi hs => r4 B hB i (by omega) hi hs⟩
end DP
