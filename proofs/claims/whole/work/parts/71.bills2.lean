/-! ===== bills: the instances ===== -/
section BJ
variable {I I' : Nat → Nat → Int32} {J : Nat → Nat → Int64} {x : Nat} {NH NY NE NR s : Nat} {f f' : Nat → Int64}
/-- regular instances of a tenant and a type among the first j -/
def prB (f : Nat → Int64) (e y i : Nat) : Bool := rn f i && decide (en f i = e) && decide (ty f i = y) && decide (mbd f i = -1)
def nr (f : Nat → Int64) (e y j : Nat) : Nat := cn (prB f e y) j
theorem nr_le (e y j : Nat) : nr f e y j ≤ j := cn_le _ _
theorem mreg_nr (e y : Nat) : mreg f e y = nI (nr f e y 12) := by
  unfold mreg nr
  rw [← cn_sm]
  refine sm_congr (fun i hi => ?_)
  unfold prB
  by_cases h : rn f i = true ∧ en f i = e ∧ ty f i = y ∧ mbd f i = -1
  · rw [if_pos h]; simp [h]
  · rw [if_neg h, if_neg]
    simpa [and_assoc] using h
/-- how many are reserved, as a natural number -/
def rN (I : Nat → Nat → Int32) (f : Nat → Int64) (n e y : Nat) : Nat := sn (fun r => if mr I r 0 = nI e ∧ mr I r 1 = nI y ∧ mact I f r = true then (mr I r 2).toNatClampNeg else 0) n
theorem rN_is (hg : mrg I NH NY NE NR) (h8 : NR ≤ 8) (e y : Nat) : mrsv I f NR e y = nI (rN I f NR e y) ∧ rN I f NR e y ≤ 72 := by
  constructor
  · refine sn_sm (fun r hr => ?_)
    have q := isr_n (hg.2.2.2.1 r hr).2.2.1 (by omega)
    by_cases h : mr I r 0 = nI e ∧ mr I r 1 = nI y ∧ mact I f r = true
    · rw [if_pos h, if_pos h]; exact q.1
    · rw [if_neg h, if_neg h]; rfl
  · refine Nat.le_trans (sn_le (B := 9) (fun r hr => ?_)) (by omega)
    have q := isr_n (hg.2.2.2.1 r hr).2.2.1 (by omega)
    by_cases h : mr I r 0 = nI e ∧ mr I r 1 = nI y ∧ mact I f r = true
    · rw [if_pos h]; exact q.2.2
    · rw [if_neg h]; omega
def spS (f : Nat → Int64) (e j : Nat) : Int32 := sm (fun i => if rn f i = true ∧ en f i = e ∧ mbd f i ≠ -1 then (f (2 + ty f i)).toInt32 else 0) j
def ovS (I : Nat → Nat → Int32) (f : Nat → Int64) (NY NR e j : Nat) : Int32 := sm (fun y => nI (nr f e y j - rN I f NR e y) * mt I y 2) NY
theorem mbill_is (hg : mrg I NH NY NE NR) (h8 : NR ≤ 8) (e : Nat) : mbill I f NY NR e = rpS I f e NR + ovS I f NY NR e 12 + spS f e 12 := by
  unfold mbill rpS ovS spS
  have : sm (fun y => (mreg f e y - mcov I f NR e y) * mt I y 2) NY = sm (fun y => nI (nr f e y 12 - rN I f NR e y) * mt I y 2) NY := by
    refine sm_congr (fun y hy => ?_)
    have q := rN_is (f := f) hg h8 e y
    have hn := nr_le (f := f) e y 12
    have : mreg f e y - mcov I f NR e y = nI (nr f e y 12 - rN I f NR e y) := by
      unfold mcov
      rw [q.1, mreg_nr]
      by_cases h : nr f e y 12 ≤ rN I f NR e y
      · rw [if_pos (by rw [li_le (by omega) (by omega)]; exact h), Int32.sub_self, show nr f e y 12 - rN I f NR e y = 0 by omega]
        rfl
      · rw [if_neg (by rw [li_le (by omega) (by omega)]; exact h), pk_sub (by omega)]
    rw [this]
  rw [this]
def iP (I : Nat → Nat → Int32) (f : Nat → Int64) (NY NR j : Nat) (I' : Nat → Nat → Int32) : Prop := onB I I' ∧ bI I' ∧ (∀ e, e < 6 → I' 177 (e * 1 + 0) = rpS I f e NR + ovS I f NY NR e j + spS f e j) ∧ (∀ e, e < 6 → ∀ y, y < 6 → I' 179 (e * 6 + y) = nI (rN I f NR e y - nr f e y j))
theorem nr_off {e y j : Nat} (h : prB f e y j = false) : nr f e y (j + 1) = nr f e y j := by
  unfold nr
  rw [cn, h]
  rfl
theorem nr_on {e y j : Nat} (h : prB f e y j = true) : nr f e y (j + 1) = nr f e y j + 1 := by
  unfold nr
  rw [cn, h]
  rfl
theorem ov_off {e j : Nat} (h : ∀ y, y < NY → prB f e y j = false) : ovS I f NY NR e (j + 1) = ovS I f NY NR e j := by
  unfold ovS
  exact sm_congr (fun y hy => by rw [nr_off (h y hy)])
theorem sp_off {e j : Nat} (h : ¬ (rn f j = true ∧ en f j = e ∧ mbd f j ≠ -1)) : spS f e (j + 1) = spS f e j := by
  unfold spS
  rw [sm, if_neg h, Int32.add_zero]
theorem sp_on {e j : Nat} (h : rn f j = true ∧ en f j = e ∧ mbd f j ≠ -1) : spS f e (j + 1) = spS f e j + (f (2 + ty f j)).toInt32 := by
  unfold spS
  rw [sm, if_pos h]
theorem prB_f1 {e y j : Nat} (h : rn f j = false) : prB f e y j = false := by simp [prB, h]
theorem prB_f2 {e y j : Nat} (h : en f j ≠ e) : prB f e y j = false := by simp [prB, h]
theorem prB_f3 {e y j : Nat} (h : ty f j ≠ y) : prB f e y j = false := by simp [prB, h]
theorem prB_f4 {e y j : Nat} (h : mbd f j ≠ -1) : prB f e y j = false := by simp [prB, h]
theorem prB_t {j : Nat} (h : rn f j = true) (h2 : mbd f j = -1) : prB f (en f j) (ty f j) j = true := by simp [prB, h, h2]
theorem i_step (hc : mc I NH NY NE NR) (hg : mrg I NH NY NE NR) (hl : clR I NH NY NE NR) (ht : siT s) (h31 : 32 ≤ s) (hs : s < 166) (hw : wfs NH NY NE f) (hr : sr I NY s f) (n j : Nat) (hj : j < 12) (hP : iP I f NY NR j I') :
    ∃ I'', bb_X0_reckon_100 (n + 1) 175 18 s (nI j) (S0, I', J, x) = bb_X0_reckon_100 n 175 18 s (nI j + 1) (S0, I'', J, x) ∧ iP I f NY NR (j + 1) I'' := by
  obtain ⟨o, b, p1, p2⟩ := hP
  have h8 := hc.2.2.2.2
  have h6 := hc.2.2.1
  have h6e := hc.2.2.2.1
  have s2 : sam 201 207 I I' := onB_sam o (by omega)
  have e202 : I' 204 = I 204 := s2 204 (by omega) (by omega)
  have hl' := clR_sam hl (onB_sam o (by omega)) s2
  have hr' := sr_sam hr (onB_sam o (by omega)) e202
  rw [bb_X0_reckon_100, if_neg (li_12 hj), rc_X8 ht.1, ob_s, si_runsN ht hj, ob_s, sr_ru hr' hj]
  by_cases hrf : rn f j = false
  · refine ⟨I', ?_, o, b, fun e he => ?_, fun e he y hy => ?_⟩
    · rw [hrf]; rfl
    · rw [p1 e he, ov_off (fun y _ => prB_f1 hrf), sp_off (fun w => by rw [hrf] at w; cases w.1)]
    · rw [p2 e he y hy, nr_off (prB_f1 hrf)]
  · have hrn : rn f j = true := by simpa using hrf
    have q := hr'.2.2.2.1 j hj hrn
    have w := hw j hj hrn
    have he0 : en f j < 6 := by have := w.1.2; unfold en; omega
    have hyN : ty f j < NY := w.2.1.2
    have hy0 : ty f j < 6 := by omega
    have q0 : gi I' s j 0 = nI (en f j) := q.1.trans (isn_32 w.1)
    have q1 : gi I' s j 1 = nI (ty f j) := q.2.1.trans (isn_32 w.2.1)
    have q2 : gi I' s j 2 = mbd f j := q.2.2.1
    have tp : gt I' 18 (ty f j) 2 = mt I (ty f j) 2 := by
      rw [hl'.2.2.2.2.1 _ hyN 2 (by omega)]
      unfold mt
      rw [e202]
    have sp : gp I' s (ty f j) = (f (2 + ty f j)).toInt32 := hr'.2.2.2.2.1 _ hyN
    have hnr := nr_le (f := f) (en f j) (ty f j) j
    have hrN := rN_is (f := f) hg h8 (en f j) (ty f j)
    rw [hrn]
    simp only [if_true]
    rw [if_neg n10, rc_X0 okB, ob_s]
    unfold dd_X0_addInstance
    simp only [fR_X8_2 ht.1, ob_s, rc_X10 ht.2.1.1, si_get ht hr'.1 rfl li_0 hj (by omega : 0 < 6), si_get ht hr'.1 rfl (li_n 1) hj (by omega : 1 < 6), si_get ht hr'.1 rfl (li_n 2) hj (by omega : 2 < 6), q0, q1, q2]
    by_cases hb : mbd f j = -1
    · have cv := p2 _ he0 _ hy0
      rw [if_pos hb, fR_X0_1 okB, ob_s, rc_X10 tbV.1, ob_s, tb_get tbV b.2 rfl rfl he0 hy0, ob_s]
      show ∃ I'', ((if I' 179 (en f j * 6 + ty f j) ≤ 0 then _ else _ : Option (Unit × ab_Mm)).bind _) = _ ∧ _
      rw [cv]
      by_cases hz : rN I f NR (en f j) (ty f j) ≤ nr f (en f j) (ty f j) j
      · rw [if_pos (by rw [li_0, li_le (by omega) (by omega)]; omega)]
        simp only [fR_X0_0 okB, ob_s, fR_X1_1 cl17.1, rc_X10 cl17.2.2.1.1, cl_gett cl17 hl'.1 rfl (li_n 2) hy0 (by omega : 2 < 3), rc_X10 tbD.1, tp]
        rw [tb_add _ tbD b.1 rfl li_0 he0 (by omega), ob_s]
        refine ⟨_, rfl, onB_u o (by omega) (by omega), bI_u b (by omega), fun e he => ?_, fun e he y hy => ?_⟩
        · rw [sp_off (fun w => w.2.2 hb)]
          by_cases ee : e = en f j
          · rw [ee, u_e]
            have e1 : ovS I f NY NR (en f j) (j + 1) = ovS I f NY NR (en f j) j + mt I (ty f j) 2 := by
              unfold ovS
              rw [sm_upd (f := fun y => nI (nr f (en f j) y (j + 1) - rN I f NR (en f j) y) * mt I y 2) (g := fun y => nI (nr f (en f j) y j - rN I f NR (en f j) y) * mt I y 2) hyN (fun y hy hne => by rw [nr_off (prB_f3 (fun w => hne w.symm))]), nr_on (prB_t hrn hb)]
              rw [show nr f (en f j) (ty f j) j + 1 - rN I f NR (en f j) (ty f j) = (nr f (en f j) (ty f j) j - rN I f NR (en f j) (ty f j)) + 1 by omega, ← nI_1]
              grind
            rw [e1]
            have p := p1 _ he0
            show I' 177 (en f j * 1 + 0) + _ = _
            rw [p]
            grind
          · rw [u_k (by omega), ov_off (fun y _ => prB_f2 (fun w => ee w.symm))]
            exact p1 e he
        · rw [u_r (by omega), p2 e he y hy]
          by_cases ee : e = en f j ∧ y = ty f j
          · rw [ee.1, ee.2, nr_on (prB_t hrn hb)]
            exact congrArg nI (by omega)
          · rw [nr_off]
            by_cases e1 : e = en f j
            · exact prB_f3 (fun w => ee ⟨e1, w.symm⟩)
            · exact prB_f2 (fun w => e1 w.symm)
      · rw [if_neg (by rw [li_0, li_le (by omega) (by omega)]; omega)]
        simp only [fR_X0_1 okB, ob_s, rc_X10 tbV.1]
        rw [tb_add _ tbV b.2 rfl rfl he0 hy0, ob_s]
        refine ⟨_, rfl, onB_u o (by omega) (by omega), bI_u b (by omega), fun e he => ?_, fun e he y hy => ?_⟩
        · rw [sp_off (fun w => w.2.2 hb), u_r (by omega), p1 e he]
          by_cases ee : e = en f j
          · rw [ee]
            have e1 : ovS I f NY NR (en f j) (j + 1) = ovS I f NY NR (en f j) j := by
              unfold ovS
              refine sm_congr (fun y hy => ?_)
              by_cases e2 : y = ty f j
              · rw [e2, nr_on (prB_t hrn hb), show nr f (en f j) (ty f j) j + 1 - rN I f NR (en f j) (ty f j) = nr f (en f j) (ty f j) j - rN I f NR (en f j) (ty f j) by omega]
              · rw [nr_off (prB_f3 (fun w => e2 w.symm))]
            rw [e1]
          · rw [ov_off (fun y _ => prB_f2 (fun w => ee w.symm))]
        · by_cases ee : e = en f j ∧ y = ty f j
          · rw [ee.1, ee.2, u_e, nr_on (prB_t hrn hb)]
            show I' 179 (en f j * 6 + ty f j) + -1 = _
            rw [cv, show rN I f NR (en f j) (ty f j) - nr f (en f j) (ty f j) j = (rN I f NR (en f j) (ty f j) - (nr f (en f j) (ty f j) j + 1)) + 1 by omega, pk_m1]
          · rw [u_k (by omega)]
            rw [nr_off]
            · exact p2 e he y hy
            · by_cases e1 : e = en f j
              · exact prB_f3 (fun w => ee ⟨e1, w.symm⟩)
              · exact prB_f2 (fun w => e1 w.symm)
    · rw [if_neg hb]
      simp only [fR_X0_0 okB, ob_s, fR_X8_4 ht.1, rc_X10 ht.2.2.2.1.1, si_getp ht hr'.1 rfl rfl hy0, rc_X10 tbD.1, sp]
      rw [tb_add _ tbD b.1 rfl li_0 he0 (by omega), ob_s]
      refine ⟨_, rfl, onB_u o (by omega) (by omega), bI_u b (by omega), fun e he => ?_, fun e he y hy => ?_⟩
      · rw [ov_off (fun y _ => prB_f4 hb)]
        by_cases ee : e = en f j
        · rw [ee, u_e, sp_on ⟨hrn, rfl, hb⟩]
          have p := p1 _ he0
          show I' 177 (en f j * 1 + 0) + _ = _
          rw [p]
          grind
        · rw [u_k (by omega), sp_off (fun w => ee w.2.1.symm)]
          exact p1 e he
      · rw [u_r (by omega), p2 e he y hy, nr_off (prB_f4 hb)]
/-- the bills of an hour, all tenants -/
theorem si_reckon (hc : mc I NH NY NE NR) (hg : mrg I NH NY NE NR) (hl : clR I NH NY NE NR) (ht : siT s) (h31 : 32 ≤ s) (hs : s < 166) (hw : wfs NH NY NE f) (hr : sr I NY s f) (hb : bI I) :
    ∃ I', dd_X0_reckon 175 18 s (S0, I, J, x) = some ((), (S0, I', J, x)) ∧ onB I I' ∧ bI I' ∧ ∀ e, e < 6 → I' 177 (e * 1 + 0) = mbill I f NY NR e := by
  have h8 := hc.2.2.2.2
  unfold dd_X0_reckon
  simp only [fR_X0_0 okB, fR_X0_1 okB, ob_s, rc_X10 tbD.1, rc_X10 tbV.1, tb_clear tbD, tb_clear tbV]
  have c0 : rP I f I 0 (ab_u (ro (ab_u (ro I (176 + 1) (fun b => if b < 6 * 1 then 0 else I (176 + 1) b)) 176 3 0) (178 + 1) (fun b => if b < 6 * 6 then 0 else ab_u (ro I (176 + 1) (fun b => if b < 6 * 1 then 0 else I (176 + 1) b)) 176 3 0 (178 + 1) b)) 178 3 0) := by
    have e1 : ∀ r k, r ≠ 177 → r ≠ 179 → (k ≠ 3 ∨ (r ≠ 176 ∧ r ≠ 178)) → (ab_u (ro (ab_u (ro I (176 + 1) (fun b => if b < 6 * 1 then 0 else I (176 + 1) b)) 176 3 0) (178 + 1) (fun b => if b < 6 * 6 then 0 else ab_u (ro I (176 + 1) (fun b => if b < 6 * 1 then 0 else I (176 + 1) b)) 176 3 0 (178 + 1) b)) 178 3 0) r k = I r k := by
      intro r k h1 h2 h3
      show (if r = 178 ∧ k = 3 then _ else _) = _
      rw [if_neg (by omega), ro_off _ _ (by omega)]
      show (if r = 176 ∧ k = 3 then _ else _) = _
      rw [if_neg (by omega), ro_off _ _ (by omega)]
    refine ⟨fun r hr => ?_, ?_, fun e he => ?_, fun e he y hy => ?_⟩
    · funext k
      exact e1 r k (by omega) (by omega) (by omega)
    · obtain ⟨⟨a1, a2⟩, ⟨b1, b2⟩⟩ := hb
      unfold bI tI
      rw [e1 176 0 (by omega) (by omega) (by omega), e1 176 1 (by omega) (by omega) (by omega), e1 178 0 (by omega) (by omega) (by omega), e1 178 1 (by omega) (by omega) (by omega)]
      exact ⟨⟨a1, a2⟩, ⟨b1, b2⟩⟩
    · rw [u_r (by omega), ro_off _ _ (by omega), u_r (by omega), ro_at]
      exact if_pos (by omega)
    · rw [u_r (by omega), ro_at]
      exact if_pos (by omega)
  generalize (ab_u (ro (ab_u (ro I (176 + 1) (fun b => if b < 6 * 1 then 0 else I (176 + 1) b)) 176 3 0) (178 + 1) (fun b => if b < 6 * 6 then 0 else ab_u (ro I (176 + 1) (fun b => if b < 6 * 1 then 0 else I (176 + 1) b)) 176 3 0 (178 + 1) b)) 178 3 0) = I0 at c0 ⊢
  obtain ⟨I1, n1, e1, q1⟩ := lp_ex0 (fun n k (z : Nat → Nat → Int32) => bb_X0_reckon_16 n 175 18 s k (S0, z, J, x)) NR (by omega) (fun j z => rP I f I j z) (fun n j z hj hP => rk_step hc hg hl ht h31 hs hr n j hj hP) I0 c0
  obtain ⟨o1, b1, p1, p2⟩ := q1
  have i0 : iP I f NY NR 0 I1 := by
    refine ⟨o1, b1, fun e he => ?_, fun e he y hy => ?_⟩
    · rw [p1 e he]
      have z1 : ovS I f NY NR e 0 = 0 := by
        unfold ovS
        rw [sm_congr (g := fun _ => 0) (fun y hy => ?_), sm_zero]
        have : nr f e y 0 = 0 := rfl
        rw [this, Nat.zero_sub]
        exact Int32.zero_mul
      have z2 : spS f e 0 = 0 := rfl
      rw [z1, z2, Int32.add_zero, Int32.add_zero]
    · rw [p2 e he y hy, (rN_is (f := f) hg h8 e y).1]
      rfl
  obtain ⟨I2, n2, e2, q2⟩ := lp_ex0 (fun n k (z : Nat → Nat → Int32) => bb_X0_reckon_100 n 175 18 s k (S0, z, J, x)) 12 (by omega) (fun j z => iP I f NY NR j z) (fun n j z hj hP => i_step hc hg hl ht h31 hs hw hr n j hj hP) I1 i0
  refine ⟨I2, ?_, q2.1, q2.2.1, fun e he => ?_⟩
  · refine e1.trans ?_
    show bb_X0_reckon_16 (n1 + 1) 175 18 s (nI NR) (S0, I1, J, x) = _
    have hsz : I1 (18 + 7) 3 = nI NR := (clR_sam hl (onB_sam o1 (by omega)) (onB_sam o1 (by omega))).2.1.2.2.2
    rw [bb_X0_reckon_16]
    simp only [fR_X1_3 cl17.1, ob_s, fI_X10_3 cl17.2.2.2.2.1.1, hsz]
    rw [if_pos (le_self _)]
    refine e2.trans ?_
    show bb_X0_reckon_100 (n2 + 1) 175 18 s (nI 12) (S0, I2, J, x) = _
    rw [bb_X0_reckon_100, if_pos li_12e]
  · rw [mbill_is hg h8, q2.2.2.1 e he]
end BJ
