/-! ===== bills paid; the model's hour ===== -/
section HP
variable {I I' : Nat → Nat → Int32} {J J' : Nat → Nat → Int64} {x : Nat} {NH NY NE NR s : Nat} {f f' g : Nat → Int64}
/-- rows that differ in spendings alone -/
def osp (f g : Nat → Int64) : Prop := ∀ k, k < 8 ∨ 14 ≤ k → g k = f k
theorem osp_op (h : osp f g) : op f g := fun k hk => h k (by omega)
theorem osp_vi (h : osp f g) (i w : Nat) : vi g i w = vi f i w := h _ (by omega)
theorem osp_rn (h : osp f g) (i : Nat) : rn g i = rn f i := by unfold rn; rw [osp_vi h]
theorem mbill_osp (h : osp f g) (hw : wfs NH NY NE f) (h6 : NY ≤ 6) (e : Nat) : mbill I g NY NR e = mbill I f NY NR e := by
  have hk : clk g = clk f := by unfold clk; rw [h 0 (by omega)]
  have ha : ∀ r, mact I g r = mact I f r := fun r => by unfold mact; rw [hk]
  have hreg : ∀ y, mreg g e y = mreg f e y := fun y => by
    unfold mreg
    refine sm_congr (fun i _ => ?_)
    unfold en ty mbd
    rw [osp_rn h, osp_vi h, osp_vi h, osp_vi h]
  have hrsv : ∀ y, mrsv I g NR e y = mrsv I f NR e y := fun y => by
    unfold mrsv
    exact sm_congr (fun r _ => by rw [ha])
  have hcov : ∀ y, mcov I g NR e y = mcov I f NR e y := fun y => by
    unfold mcov
    rw [hreg, hrsv]
  unfold mbill
  have e1 : sm (fun r => if mr I r 0 = nI e ∧ mact I g r = true then mpay I r else 0) NR = sm (fun r => if mr I r 0 = nI e ∧ mact I f r = true then mpay I r else 0) NR := sm_congr (fun r _ => by rw [ha])
  have e2 : sm (fun y => (mreg g e y - mcov I g NR e y) * mt I y 2) NY = sm (fun y => (mreg f e y - mcov I f NR e y) * mt I y 2) NY := sm_congr (fun y _ => by rw [hreg, hcov])
  have e3 : sm (fun i => if rn g i = true ∧ en g i = e ∧ mbd g i ≠ -1 then (g (2 + ty g i)).toInt32 else 0) 12 = sm (fun i => if rn f i = true ∧ en f i = e ∧ mbd f i ≠ -1 then (f (2 + ty f i)).toInt32 else 0) 12 := by
    refine sm_congr (fun i hi => ?_)
    have ee : en g i = en f i := by unfold en; rw [osp_vi h]
    have et : ty g i = ty f i := by unfold ty; rw [osp_vi h]
    have eb : mbd g i = mbd f i := by unfold mbd; rw [osp_vi h]
    rw [osp_rn h, ee, et, eb]
    by_cases c : rn f i = true ∧ en f i = e ∧ mbd f i ≠ -1
    · have := ty_lt hw hi c.1
      rw [if_pos c, if_pos c, h (2 + ty f i) (by omega)]
    · rw [if_neg c, if_neg c]
  rw [e1, e2, e3]
/-- the row with the bills paid by the first n tenants -/
def blN (I : Nat → Nat → Int32) (NY NR : Nat) (f : Nat → Int64) (n : Nat) : Nat → Int64 := fun k => if 8 ≤ k ∧ k < 8 + n then f k + (mbill I f NY NR (k - 8)).toInt64 else f k
theorem blN_osp {n : Nat} (h : n ≤ 6) : osp f (blN I NY NR f n) := fun k hk => if_neg (by omega)
theorem blN_0 : blN I NY NR f 0 = f := by
  funext k
  exact if_neg (by omega)
theorem blN_s (n : Nat) : fu (blN I NY NR f n) (8 + n) (blN I NY NR f n (8 + n) + (mbill I f NY NR n).toInt64) = blN I NY NR f (n + 1) := by
  funext k
  unfold blN fu
  by_cases e : k = 8 + n
  · rw [if_pos e, e, if_neg (by omega), if_pos (by omega), show 8 + n - 8 = n by omega]
  · rw [if_neg e]
    show (if 8 ≤ k ∧ k < 8 + n then f k + (mbill I f NY NR (k - 8)).toInt64 else f k) = _
    by_cases c : 8 ≤ k ∧ k < 8 + n
    · rw [if_pos c, if_pos (by omega)]
    · rw [if_neg c, if_neg (by omega)]
theorem sr_osp (hr : sr I NY s f) (h31 : 32 ≤ s) (hs : s < 181) (h6 : NY ≤ 6) (h : osp f g) : sr I NY s g :=
  sr_op hr h31 hs (osp_op h) (fun _ _ => rfl) (fun y hy => by rw [h (2 + y) (by omega)]; exact hr.2.2.2.2.1 y hy)
theorem wff_osp (hg : mrg I NH NY NE NR) (h6 : NY ≤ 6) (hw : wff I NH NY NE f) (h : osp f g) : wff I NH NY NE g :=
  wff_op hg (osp_op h) hw (fun y hy => by rw [h (2 + y) (by omega)]; exact hw.2.2.2.2.1 y hy)
theorem wfs_osp (hw : wfs NH NY NE f) (h : osp f g) : wfs NH NY NE g := fun i hi hr => by
  rw [osp_rn h] at hr
  have q := hw i hi hr
  unfold wfi at q ⊢
  rw [osp_vi h, osp_vi h, osp_vi h, osp_vi h, osp_vi h, osp_vi h]
  exact q
theorem m_billJ {e : Nat} (hc : mc I NH NY NE NR) (hg : mrg I NH NY NE NR) (hk : isI (f 0)) (hw : wfs NH NY NE f) (he : e < 6) : dd_X12_billOf 200 (nI e) (S0, I, jr J f, x) = some (mbill I f NY NR e, (S0, I, jr J f, x)) := @m_bill I (jr J f) x NH NY NE NR e hc hg hk hw he
theorem ev_sam {lo hi : Nat} {v : Int32} (h : hi ≤ 200 ∨ 201 ≤ lo) : sam lo hi I (ev I v) := sam_u sam_refl (by omega)
theorem m_noL (hw : wff I NH NY NE f) (hg : mrg I NH NY NE NR) (h6 : NY ≤ 6) : ∀ (k n j : Nat), j + k = 12 → k < n → bb_X12_hour_134 n 200 (nI j) (S0, I, jr J (itr (noS I) 0 j f), x) = bb_X12_hour_134 (n - k) 200 (nI 12) (S0, I, jr J (noF I f), x) := by
  intro k
  induction k with
  | zero =>
    intro n j h1 h2
    have e : j = 12 := by omega
    subst e
    rfl
  | succ k ih =>
    intro n j h1 h2
    obtain ⟨n, rfl⟩ : ∃ q, n = q + 1 := ⟨n - 1, by omega⟩
    have o := noF_ont (I := I) (f := f) j (by omega)
    have h0 : itr (noS I) 0 j f 0 = f 0 := o 0 (fun i hi => by omega)
    rw [m_noS (noF_wfs (I := I) hw.2.2.1 j (by omega)) h6 (by rw [h0]; exact hw.1) hg.2.2.2.2.2.1 (fun y hy => by rw [o (2 + y) (fun i hi => by omega)]; exact hw.2.2.2.2.1 y hy) n j (by omega), nI_1]
    have e := ih n (j + 1) (by omega) (by omega)
    rw [itr_last, Nat.zero_add] at e
    rw [e]
    exact congrArg (fun q => bb_X12_hour_134 q 200 (nI 12) (S0, I, jr J (noF I f), x)) (by omega)
theorem m_dueL (hw : wfs NH NY NE f) (hk : isI (f 0)) : ∀ (k n j : Nat), j + k = 12 → k < n → bb_X12_hour_53 n 200 (nI j) (S0, ev I (itr duS 0 j (0, f)).1, jr J (itr duS 0 j (0, f)).2, x) = bb_X12_hour_53 (n - k) 200 (nI 12) (S0, ev I (dueF f).1, jr J (dueF f).2, x) := by
  intro k
  induction k with
  | zero =>
    intro n j h1 h2
    have e : j = 12 := by omega
    subst e
    rfl
  | succ k ih =>
    intro n j h1 h2
    obtain ⟨n, rfl⟩ : ∃ q, n = q + 1 := ⟨n - 1, by omega⟩
    have q := itr_due_inv hw j (by omega)
    rw [m_dueS (I := I) q.1 (by rw [q.2]; exact hk) n j (by omega), nI_1]
    have e := ih n (j + 1) (by omega) (by omega)
    rw [itr_last, Nat.zero_add] at e
    rw [e]
    exact congrArg (fun q => bb_X12_hour_53 q 200 (nI 12) (S0, ev I (dueF f).1, jr J (dueF f).2, x)) (by omega)
theorem m_hour (hc : mc I NH NY NE NR) (hg : mrg I NH NY NE NR) (hw : wff I NH NY NE f) (hlt : nv (f 0) + 1 < 20000) :
    dd_X12_hour 200 (S0, I, jr J f, x) = some ((), (S0, ev I (evF (blN I NY NR f NE)), jr J (hrF I NH NY (blN I NY NR f NE)), x)) := by
  have h6 := hc.2.2.1
  have h6e := hc.2.2.2.1
  unfold dd_X12_hour
  have step : ∀ n j, j < NE → bb_X12_hour_2 (n + 1) 200 (nI j) (S0, I, jr J (blN I NY NR f j), x) = bb_X12_hour_2 n 200 (nI (j + 1)) (S0, I, jr J (blN I NY NR f (j + 1)), x) := by
    intro n j hj
    have o : osp f (blN I NY NR f j) := blN_osp (by omega)
    have e8 : (8 : Int32) + nI j = nI (8 + j) := li_add 8 _
    rw [bb_X12_hour_2, m_R2, ob_s, m_to2, ob_s, hc.1.2.2.1, if_neg (by rw [li_le (by omega) (by omega)]; omega), m_R1, ob_s, e8, m_nowJ (by omega), ob_s, m_rc, ob_s, m_billJ hc hg (by rw [o 0 (by omega)]; exact isn_I hw.1) (wfs_osp hw.2.2.1 o) (by omega), ob_s, m_snowJ _ (by omega), ob_s, mbill_osp o hw.2.2.1 h6, blN_s, nI_1]
  have loop : ∀ (k n j : Nat), j + k = NE → k < n → bb_X12_hour_2 n 200 (nI j) (S0, I, jr J (blN I NY NR f j), x) = bb_X12_hour_2 (n - k) 200 (nI NE) (S0, I, jr J (blN I NY NR f NE), x) := by
    intro k
    induction k with
    | zero =>
      intro n j h1 h2
      have e : j = NE := by omega
      subst e
      rfl
    | succ k ih =>
      intro n j h1 h2
      obtain ⟨n, rfl⟩ : ∃ q, n = q + 1 := ⟨n - 1, by omega⟩
      rw [step n j (by omega), ih n (j + 1) (by omega) (by omega)]
      exact congrArg (fun q => bb_X12_hour_2 q 200 (nI NE) (S0, I, jr J (blN I NY NR f NE), x)) (by omega)
  have l0 := loop NE ab_fu 0 (by omega) (ab_fu_big (by omega))
  rw [blN_0] at l0
  refine l0.trans ?_
  have o : osp f (blN I NY NR f NE) := blN_osp h6e
  have w0 : wff I NH NY NE (blN I NY NR f NE) := wff_osp hg h6 hw o
  have k0 : nv (blN I NY NR f NE 0) + 1 < 20000 := by rw [o 0 (by omega)]; exact hlt
  generalize blN I NY NR f NE = b at w0 k0 ⊢
  obtain ⟨n, hn⟩ : ∃ q, ab_fu - NE = q + 1 := ⟨ab_fu - NE - 1, by unfold ab_fu; omega⟩
  have w1 := wff_tick hg w0 k0
  rw [hn, bb_X12_hour_2, m_R2, ob_s, m_to2, ob_s, hc.1.2.2.1, if_pos (le_self _), m_R1, ob_s, m_n0J, ob_s, li_0, m_snowJ _ (by omega), ob_s, ← li_0, m_P27, ob_s]
  have d := @m_dueL I J x NH NY NE (tick b) w1.2.2.1 (isn_I w1.1) 12 ab_fu 0 (by omega) (ab_fu_big (by omega))
  refine Eq.trans d ?_
  obtain ⟨n, hn⟩ : ∃ q, ab_fu - 12 = q + 1 := ⟨ab_fu - 12 - 1, by unfold ab_fu; omega⟩
  have w2 := wff_due hg h6 w1
  have evd : (dueF (tick b)).1 = evF b := rfl
  rw [hn, bb_X12_hour_53, if_pos li_12e, m_rc, ob_s, evd]
  have c2 : mc (ev I (evF b)) NH NY NE NR := mc_sam hc (ev_sam (by omega))
  have g2 : mrg (ev I (evF b)) NH NY NE NR := mrg_sam hg (ev_sam (by omega))
  have w2' : wff (ev I (evF b)) NH NY NE (dueF (tick b)).2 := wff_sam w2 (ev_sam (by omega))
  rw [m_prices c2 w2'.2.2.1, ob_s]
  have w3 := wff_pr g2 h6 w2'
  have d3 := @m_noL (ev I (evF b)) J x NH NY NE NR (prF (ev I (evF b)) NH NY (dueF (tick b)).2) w3 g2 h6 12 ab_fu 0 (by omega) (ab_fu_big (by omega))
  refine Eq.trans d3 ?_
  have w4 := wff_no g2 h6 w3
  rw [hn, bb_X12_hour_134, if_pos li_12e]
  have d4 := @m_grant (ev I (evF b)) J x NH NY NE NR g2 c2 10 0 ab_fu _ w4 (by have := w4.2.1.2; unfold nq; omega) (by omega) (ab_fu_big (by omega))
  refine Eq.trans d4 ?_
  have s0 : sam 201 207 I (ev I (evF b)) := ev_sam (by omega)
  rw [grF_I (s0 203 (by omega) (by omega)) (s0 204 (by omega) (by omega)), noF_I (s0 202 (by omega) (by omega)), prF_I (s0 202 (by omega) (by omega)) (s0 203 (by omega) (by omega)) (s0 204 (by omega) (by omega))]
  rfl
end HP
