/-! ===== an hour ===== -/
section HO
variable {I I' : Nat → Nat → Int32} {J : Nat → Nat → Int64} {x : Nat} {NH NY NE NR s : Nat} {f f' : Nat → Int64}
def tick (f : Nat → Int64) : Nat → Int64 := fu f 0 (f 0 + 1)
def evF (f : Nat → Int64) : Int32 := (dueF (tick f)).1
def hrF (I : Nat → Nat → Int32) (NH NY : Nat) (f : Nat → Int64) : Nat → Int64 := grF I NH 10 0 (noF I (prF I NH NY (dueF (tick f)).2))
theorem tick_0 (hk : isn (f 0) 20000) (hlt : nv (f 0) + 1 < 20000) : f 0 + 1 = (nI (nv (f 0) + 1)).toInt64 ∧ nv (f 0 + 1) = nv (f 0) + 1 ∧ isn (tick f 0) 20000 ∧ clk (tick f) = clk f + 1 := by
  have hc : clk f = nI (nv (f 0)) := isn_32 hk
  have e0 := hk.1
  have e : f 0 + 1 = (nI (nv (f 0) + 1)).toInt64 := by
    generalize nv (f 0) = N at e0 hlt ⊢
    rw [e0, nI_l (by omega), nI_l (by omega)]
    exact lN_add N 1
  have e2 : nv (f 0 + 1) = nv (f 0) + 1 := by rw [e, nv_n (by omega)]
  have et : tick f 0 = f 0 + 1 := fu_e
  refine ⟨e, e2, ?_, ?_⟩
  · unfold isn
    rw [et, e2]
    exact ⟨e, hlt⟩
  · unfold clk at hc ⊢
    rw [et, e, Int32.toInt32_toInt64, hc, nI_1]
theorem tick_vi (i w : Nat) : vi (tick f) i w = vi f i w := fu_n (by omega)
theorem tick_rn (i : Nat) : rn (tick f) i = rn f i := by unfold rn; rw [tick_vi]
theorem tick_rq : nq (tick f) = nq f ∧ bq (tick f) = bq f ∧ vq (tick f) = vq f := rq_congr (fu_n (by omega)) (fun k hk => fu_n (by omega))
theorem tick_lod (I : Nat → Nat → Int32) (h w : Nat) : lod I (tick f) h w = lod I f h w := by
  unfold lod
  refine sm_congr (fun i hi => ?_)
  rw [tick_rn]
  unfold ho ty
  rw [tick_vi, tick_vi]
theorem wff_tick (hg : mrg I NH NY NE NR) (hw : wff I NH NY NE f) (hlt : nv (f 0) + 1 < 20000) : wff I NH NY NE (tick f) := by
  obtain ⟨w1, w2, w3, w4, w5, w6, w7⟩ := hw
  have ⟨e1, e2, e3⟩ := @tick_rq f
  have w3' : wfs NH NY NE (tick f) := fun i hi hr => by
    rw [tick_rn] at hr
    have q := w3 i hi hr
    unfold wfi at q ⊢
    rw [tick_vi, tick_vi, tick_vi, tick_vi, tick_vi, tick_vi]
    exact q
  have t1 : tick f 1 = f 1 := fu_n (by omega)
  refine ⟨(tick_0 w1 hlt).2.2.1, by rw [t1]; exact w2, w3', fun i hi hr => ?_, fun y hy => ?_, fun r hr => ?_, fun k hk w hw2 => ?_⟩
  · rw [tick_rn] at hr
    have q := w4 i hi hr
    unfold mbd at q ⊢
    rw [tick_vi]; exact q
  · have : tick f (2 + y) = f (2 + y) := fu_n (by omega)
    rw [this]; exact w5 y hy
  · rw [e1] at hr
    rw [e2, e3]; exact w6 r hr
  · have q := w7 k hk w hw2
    unfold fre at q ⊢
    rw [tick_lod]; exact q
theorem sr_tick (hr : sr I NY s f) (hs : s < 181) (hk : clk (tick f) = clk f + 1) : sr (ab_u I s 0 (I s 0 + 1)) NY s (tick f) := by
  have ⟨e1, e2, e3⟩ := @tick_rq f
  refine ⟨siI_u hr.1 (Or.inl (by omega)), by rw [u_e, hk, hr.2.1], ?_, fun j h12 hj => ?_, fun y hy => ?_, fun k hk2 w hw => ?_, ?_, fun r hr1 w hw => ?_⟩
  · rw [u_k (by omega), hr.2.2.1]
    exact sets_congr (fun j _ => (tick_rn j).symm)
  · rw [tick_rn] at hj
    have q := hr.2.2.2.1 j h12 hj
    rw [tick_vi, tick_vi, tick_vi, tick_vi, tick_vi, tick_vi]
    unfold gi at q ⊢
    rw [u_r (by omega)]
    exact q
  · have : tick f (2 + y) = f (2 + y) := fu_n (by omega)
    rw [this, ← hr.2.2.2.2.1 y hy]
    unfold gp
    rw [u_r (by omega)]
  · by_cases h202 : s = 204
    · omega
    · rw [tick_lod, lod_I (u_r (by omega)), ← hr.2.2.2.2.2.1 k hk2 w hw]
      unfold gl
      rw [u_r (by omega)]
  · rw [u_r (by omega), e1]; exact hr.2.2.2.2.2.2.1
  · rw [e1] at hr1 ⊢
    rw [e2, e3, ← hr.2.2.2.2.2.2.2 r hr1 w hw]
    unfold gq
    rw [u_r (by omega)]
theorem noF_o : ont f (noF I f) := by
  unfold noF
  exact noF_ont 12 (Nat.le_refl _)
theorem noF_w (hw : wfs NH NY NE f) : wfs NH NY NE (noF I f) := by
  unfold noF
  exact noF_wfs hw 12 (Nat.le_refl _)
theorem dueF_0 (hw : wfs NH NY NE f) : (dueF f).2 0 = f 0 := by
  unfold dueF
  exact (itr_due_inv hw 12 (Nat.le_refl _)).2
theorem wff_due (hg : mrg I NH NY NE NR) (h6 : NY ≤ 6) (hw : wff I NH NY NE f) : wff I NH NY NE (dueF f).2 := by
  unfold dueF
  have h := itr_inv (f := duS) (fun _ a => wff I NH NY NE a.2) 12 0 (0, f) hw (fun i a _ hi ha => by
    unfold duS
    by_cases h : isDue a.2 i = true
    · rw [if_pos h]; exact wff_end hg h6 ha (by omega)
    · rw [if_neg h]; exact ha)
  exact h
theorem wff_pr (hg : mrg I NH NY NE NR) (h6 : NY ≤ 6) (hw : wff I NH NY NE f) : wff I NH NY NE (prF I NH NY f) :=
  wff_op hg (fun k hk => prF_off k (by omega)) hw (fun y hy => by rw [prF_at y hy]; exact isI_j _)
theorem wff_no (hg : mrg I NH NY NE NR) (h6 : NY ≤ 6) (hw : wff I NH NY NE f) : wff I NH NY NE (noF I f) :=
  wff_ont hg h6 noF_o hw (noF_w hw.2.2.1)
theorem wff_gr (hg : mrg I NH NY NE NR) (hc : mc I NH NY NE NR) : ∀ (k p : Nat) (f : Nat → Int64), wff I NH NY NE f → wff I NH NY NE (grF I NH k p f) ∧ grF I NH k p f 0 = f 0 := by
  intro k
  induction k with
  | zero => exact fun _ _ h => ⟨h, rfl⟩
  | succ k ih =>
    intro p f hw
    unfold grF
    cases e : rqA f (nI p) with
    | none => exact ⟨hw, rfl⟩
    | some r =>
      have hr : r < nq f := by have := fd_some e; omega
      show wff I NH NY NE (if can I NH f r = true then grF I NH k p (nxF I NH f r) else grF I NH k (p + 1) f) ∧ (if can I NH f r = true then grF I NH k p (nxF I NH f r) else grF I NH k (p + 1) f) 0 = f 0
      cases hcan : can I NH f r with
      | true =>
        rw [if_pos rfl]
        have w := ih p _ (nxF_wff hg hc hw hr hcan).1
        refine ⟨w.1, w.2.trans ?_⟩
        unfold nxF
        rw [dropF_off (by omega) (by omega)]
        exact fst_oi 0 (by omega)
      | false =>
        rw [if_neg (by decide)]
        exact ih (p + 1) f hw
theorem prF_I (h0 : I' 202 = I 202) (h1 : I' 203 = I 203) (h2 : I' 204 = I 204) (f : Nat → Int64) : prF I' NH NY f = prF I NH NY f := by
  unfold prF prcF useF mall mload mh mt
  rw [h0, h1, h2]
theorem noF_I (h0 : I' 202 = I 202) (f : Nat → Int64) : noF I' f = noF I f := by
  unfold noF
  refine itr_congr 12 0 f (fun i b _ _ => ?_)
  unfold noS noV
  rw [h0]
theorem hr_clk (hg : mrg I NH NY NE NR) (hc : mc I NH NY NE NR) (hw : wff I NH NY NE f) (hlt : nv (f 0) + 1 < 20000) : wff I NH NY NE (hrF I NH NY f) ∧ hrF I NH NY f 0 = f 0 + 1 := by
  have h6 := hc.2.2.1
  have w4 := wff_no hg h6 (wff_pr hg h6 (wff_due hg h6 (wff_tick hg hw hlt)))
  have g := wff_gr hg hc 10 0 _ w4
  refine ⟨g.1, g.2.trans ?_⟩
  have a1 : noF I (prF I NH NY (dueF (tick f)).2) 0 = prF I NH NY (dueF (tick f)).2 0 := noF_o 0 (fun i hi => by omega)
  rw [a1, prF_off 0 (by omega)]
  exact (dueF_0 (wff_tick hg hw hlt).2.2.1).trans fu_e
theorem si_hour (ht : siT s) (h31 : 32 ≤ s) (hs : s < 181) (hc : mc I NH NY NE NR) (hg : mrg I NH NY NE NR) (hl : clR I NH NY NE NR) (hw : wff I NH NY NE f) (hr : sr I NY s f) (hlt : nv (f 0) + 1 < 20000) :
    ∃ I', dd_X8_nextHour s 18 (S0, I, J, x) = some (evF f, (S0, I', J, x)) ∧ onl s I I' ∧ sr I' NY s (hrF I NH NY f) := by
  have h6 := hc.2.2.1
  have w1 := wff_tick hg hw hlt
  have r1 := sr_tick hr hs (tick_0 hw.1 hlt).2.2.2
  have o1 : onl s I (ab_u I s 0 (I s 0 + 1)) := onl_u (onl_refl s I) (by omega) (by omega)
  unfold dd_X8_nextHour hrF evF
  rw [fI_X8_0 ht.1, ob_s, pI_X8_0 ht.1, ob_s, rc_X8 ht.1, ob_s]
  generalize ab_u I s 0 (I s 0 + 1) = I1 at r1 o1 ⊢
  obtain ⟨I2, d2, p2, r2⟩ := @si_due I1 J x NH NY NE NR s (tick f) ht h31 hs (mc_onl hc o1 hs) (clR_onl hl o1 h31 hs) w1.2.2.1 r1
  have o2 := onl_trans o1 p2
  have w2 := wff_due hg h6 w1
  obtain ⟨I3, d3, p3, r3⟩ := @si_prices I2 J x NH NY NE NR s _ ht h31 hs (mc_onl hc o2 hs) (mrg_onl hg o2 hs) (clR_onl hl o2 h31 hs) w2.2.2.1 r2
  rw [prF_I (o2 202 (by omega)) (o2 203 (by omega)) (o2 204 (by omega))] at r3
  have o3 := onl_trans o2 p3
  have w3 := wff_pr hg h6 w2
  obtain ⟨I4, d4, p4, r4⟩ := @si_notices I3 J x NH NY NE NR s _ ht h31 hs (mc_onl hc o3 hs) (clR_onl hl o3 h31 hs) w3.2.2.1 r3
  rw [noF_I (o3 202 (by omega))] at r4
  have o4 := onl_trans o3 p4
  have w4 := wff_no hg h6 w3
  obtain ⟨I5, d5, p5, r5⟩ := @si_grant J x NH NY NE NR s ht h31 hs 10 0 0 ab_fu I4 _ (by omega) (ab_fu_big (by omega)) (by omega) (mc_onl hc o4 hs) (mrg_onl hg o4 hs) (clR_onl hl o4 h31 hs) (wff_onl w4 o4 hs) r4
  rw [grF_I (o4 203 (by omega)) (o4 204 (by omega))] at r5
  refine ⟨I5, ?_, onl_trans o4 p5, r5⟩
  have d5' : dd_X8_grantRequests s 18 (S0, I4, J, x) = some ((), (S0, I5, J, x)) := by
    unfold dd_X8_grantRequests
    rw [li_0]
    exact d5
  rw [d2, ob_s, rc_X8 ht.1, ob_s, d3, ob_s, rc_X8 ht.1, ob_s, d4, ob_s, rc_X8 ht.1, ob_s, d5', ob_s]
end HO
