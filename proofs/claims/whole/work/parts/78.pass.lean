/-! ===== the bill of an hour; hours pass ===== -/
section PA
variable {I I' I0 : Nat → Nat → Int32} {J J' : Nat → Nat → Int64} {x : Nat} {NH NY NE NR s d u tp : Nat} {f g : Nat → Int64} {H S : Nat → Nat → Int64} {b : Nat → Bool}
theorem c_R5 : ab_fR (S0, I, J, x) 11 0 5 = some 175 := op_fR okC rfl
theorem c_R3 : ab_fR (S0, I, J, x) 11 0 3 = some 42 := op_fR okC rfl
theorem kp_onB (hc : Cst I) (o : onB I I') (hb : bI I') : kp I I' := by
  obtain ⟨a, a2, a3, a4, a5, a6⟩ := hc
  refine ⟨fun r h1 h2 h3 => o r (by omega), ?_, hb, ?_, ?_, fun r h1 h2 => o r (by omega), o 219 (by omega), fun k _ _ => by rw [o 200 (by omega)], by rw [o 213 (by omega)], by rw [o 214 (by omega)]⟩
  · unfold siI tI at a ⊢
    rw [o (42 + 1) (by omega), o (42 + 3) (by omega), o (42 + 5) (by omega), o (42 + 7) (by omega)]
    exact a
  · unfold tI at a4 ⊢
    rw [o 183 (by omega)]
    exact a4
  · unfold tP tI at a5 ⊢
    rw [o 198 (by omega), o 193 (by omega)]
    exact a5
theorem mbill_I (h : sam 201 207 I I') (e : Nat) : mbill I' f NY NR e = mbill I f NY NR e := by
  unfold mbill mcov mrsv mact mpay ry mr mt
  rw [h 206 (by omega) (by omega), h 204 (by omega) (by omega)]
theorem q_hourlyBill (hi : Inv I J) (cd : Nat → Option Int32) (hcd : cd 0 = some 1) (a : Int32) : Cal (dd_X11_hourlyBill 0 a) (dd_X12_hourlyBill 200 a) cd I J x := by
  obtain ⟨NH, NY, NE, NR, f, u, tp, H, b, S, w, c, m, r⟩ := id hi
  obtain ⟨hc, hg, hl, hm⟩ := w
  have h6e := hc.2.2.2.1
  unfold Cal dd_X11_hourlyBill dd_X12_hourlyBill
  have nr0 := c_need (I := I) (J := J) (x := x) cl17.2.2.2.1.1 hl.2.1.2.2.1 (show NE < 1000 by omega) a
  rw [c_R1, ob_s, d_R2, ob_s, c_rc, ob_s, nr0, ob_s]
  cases h : inN a NE with
  | false =>
    refine ⟨.inr 0, I, J, x + 1, rfl, by omega, fun J' hJ => ⟨0, th I 1, J', ?_, Inv_kp hi (kp_th (kp_refl (Inv_Cst hi)) _) (fun r _ _ q => hJ r q), rfl, 1, hcd, by decide, th_at _⟩⟩
    rw [m_rc, ob_s, m_noTenant hc, ob_s, h]
    rfl
  | true =>
    obtain ⟨t, ht, rfl⟩ := inN_ex h (by omega)
    obtain ⟨I1, e1, o1, b1, p1⟩ := @si_reckon I J x NH NY NE NR 32 f hc hg hl si31 (by omega) (by omega) c.1.2.1.2.2.1 c.1.1 c.2.1.2.2.1
    have hv : I1 (176 + 1) (t * 1 + 0) = mbill I f NY NR t := p1 t (by omega)
    have gv : dd_X10_get 176 (nI t) 0 (S0, I1, J, x) = some (I1 (176 + 1) (t * 1 + 0), (S0, I1, J, x)) := tb_get tbD b1.1 rfl li_0 (show t < 6 by omega) (by omega : 0 < 1)
    rw [hv] at gv
    simp only [if_true]
    rw [c_R5, ob_s, c_R1, ob_s, c_R2, ob_s, rc_X0 okB, ob_s, e1, ob_s, c_R5, ob_s, fR_X0_0 okB, ob_s, rc_X10 tbD.1, ob_s, gv, ob_s]
    refine ⟨_, I1, J, x, rfl, by omega, fun J' hJ => ?_⟩
    have s2 : sam 201 207 I I1 := onB_sam o1 (by omega)
    have hc1 : mc I1 NH NY NE NR := mc_sam hc s2
    have hf : J' 201 = f := (hJ 201 (by omega)).trans m.1
    have s3 : sam 201 207 I (th I1 0) := fun r q1 q2 => (th_off _ (by omega)).trans (s2 r q1 q2)
    have q := @m_bill (th I1 0) J' x NH NY NE NR t (mc_sam hc s3) (mrg_sam hg s3) (by rw [hf]; exact isn_I c.1.2.1.1) (by rw [hf]; exact c.1.2.1.2.2.1) (by omega)
    refine ⟨mbill I f NY NR t, th I1 0, J', ?_, Inv_kp hi (kp_th (kp_onB c.2.1 o1 b1) _) (fun r _ _ q => hJ r q), rfl, th_at _, rfl⟩
    rw [m_rc, ob_s, m_noTenant hc1, ob_s, h]
    simp only [Bool.not_true, Bool.false_eq_true, if_false, if_true]
    rw [m_rc, ob_s, q, ob_s, hf, mbill_I s3]
    rfl
/-- an hour as a whole -/
def hmF (I : Nat → Nat → Int32) (NH NY NE NR : Nat) (f : Nat → Int64) : Nat → Int64 := hrF I NH NY (blN I NY NR f NE)
def eh (I : Nat → Nat → Int32) (NY NE NR : Nat) (f : Nat → Int64) : Int32 := evF (blN I NY NR f NE)
theorem blN_I (h : sam 201 207 I I') (n : Nat) : blN I' NY NR f n = blN I NY NR f n := by
  funext k
  unfold blN
  rw [mbill_I h]
theorem hrF_I (h : sam 201 207 I I') : hrF I' NH NY f = hrF I NH NY f := by
  unfold hrF
  rw [grF_I (h 203 (by omega) (by omega)) (h 204 (by omega) (by omega)), noF_I (h 202 (by omega) (by omega)), prF_I (h 202 (by omega) (by omega)) (h 203 (by omega) (by omega)) (h 204 (by omega) (by omega))]
theorem hmF_I (h : sam 201 207 I I') : hmF I' NH NY NE NR f = hmF I NH NY NE NR f := by
  unfold hmF
  rw [blN_I h, hrF_I h]
theorem eh_I (h : sam 201 207 I I') : eh I' NY NE NR f = eh I NY NE NR f := by
  unfold eh
  rw [blN_I h]
theorem hm_wff (hc : mc I NH NY NE NR) (hg : mrg I NH NY NE NR) (hw : wff I NH NY NE f) (hlt : nv (f 0) + 1 < 20000) : wff I NH NY NE (hmF I NH NY NE NR f) ∧ nv (hmF I NH NY NE NR f 0) = nv (f 0) + 1 := by
  have o : osp f (blN I NY NR f NE) := blN_osp hc.2.2.2.1
  have w0 : wff I NH NY NE (blN I NY NR f NE) := wff_osp hg hc.2.2.1 hw o
  have e0 : blN I NY NR f NE 0 = f 0 := o 0 (by omega)
  have q := hr_clk hg hc w0 (by rw [e0]; exact hlt)
  refine ⟨q.1, ?_⟩
  unfold hmF
  rw [q.2, e0]
  exact (tick_0 hw.1 hlt).2.1
/-- what is evicted is a set -/
theorem ev_set (f : Nat → Int64) : ∃ p, (dueF f).1 = sets p := by
  unfold dueF
  have h := itr_inv (f := duS) (fun _ a => ∃ p, a.1 = sets p) 12 0 (0, f) ⟨fun _ => false, show (0 : Int32) = sets (fun _ => false) from by decide⟩ (fun i a _ hi ha => by
    obtain ⟨p, hp⟩ := ha
    unfold duS
    by_cases h : isDue a.2 i = true
    · rw [if_pos h]
      refine ⟨fun j => decide (j = i) || p j, ?_⟩
      show a.1 ||| _ = _
      rw [hp]
      exact sets_or p (by omega)
    · rw [if_neg h]; exact ⟨p, hp⟩)
  exact h
theorem eh_set (f : Nat → Int64) : ∃ p, eh I NY NE NR f = sets p := ev_set _
theorem bits_eh (m : ab_Mm) : dd_X12_bits (eh I NY NE NR f) m = some (bcf (eh I NY NE NR f), m) := by
  obtain ⟨p, hp⟩ := eh_set (I := I) (NY := NY) (NE := NE) (NR := NR) f
  rw [hp, bits_sets]
  have q := bc_sets p m
  rw [bc_is] at q
  exact q.symm
/-- spendings and the hour's steps -/
theorem fst_sp {i k : Nat} {e y h c : Int64} (hk : 8 ≤ k ∧ k < 14) : fst f i e y h c k = f k := fst_oi k (by omega)
theorem gr_sp : ∀ (n p : Nat) (f : Nat → Int64) (k : Nat), 8 ≤ k ∧ k < 14 → grF I NH n p f k = f k := by
  intro n
  induction n with
  | zero => exact fun _ _ _ _ => rfl
  | succ n ih =>
    intro p f k hk
    unfold grF
    cases e : rqA f (nI p) with
    | none => rfl
    | some r =>
      show (if can I NH f r = true then grF I NH n p (nxF I NH f r) else grF I NH n (p + 1) f) k = f k
      cases hcan : can I NH f r with
      | true =>
        rw [if_pos rfl, ih p _ k hk]
        unfold nxF
        rw [dropF_off (by omega) (by omega), fst_sp hk]
      | false =>
        rw [if_neg (by decide), ih (p + 1) f k hk]
theorem due_sp {k : Nat} (hk : 8 ≤ k ∧ k < 14) : (dueF f).2 k = f k := by
  unfold dueF
  have h := itr_inv (f := duS) (fun _ a => a.2 k = f k) 12 0 (0, f) rfl (fun i a _ hi ha => by
    unfold duS
    by_cases h : isDue a.2 i = true
    · rw [if_pos h]
      exact (fu_n (by omega)).trans ha
    · rw [if_neg h]; exact ha)
  exact h
theorem hr_sp (h6 : NY ≤ 6) {k : Nat} (hk : 8 ≤ k ∧ k < 14) : hrF I NH NY f k = f k := by
  unfold hrF
  rw [gr_sp _ _ _ _ hk, noF_o k (fun i hi => by omega), prF_off k (by omega), due_sp hk]
  exact fu_n (by omega)
theorem mbill_0 (hc : mc I NH NY NE NR) (hg : mrg I NH NY NE NR) (hw : wfs NH NY NE f) {e : Nat} (he : NE ≤ e) (h6 : e < 6) : mbill I f NY NR e = 0 := by
  have h8 := hc.2.2.2.2
  have h6e := hc.2.2.2.1
  have z1 : rpS I f e NR = 0 := by
    unfold rpS
    rw [sm_congr (g := fun _ => 0) (fun r hr => ?_), sm_zero]
    rw [if_neg]
    intro q
    have w := (hg.2.2.2.1 r hr).1
    have := w.1.symm.trans q.1
    rw [li_eq (by omega) (by omega)] at this
    omega
  have hn : ∀ y j, j ≤ 12 → nr f e y j = 0 := by
    intro y j hj
    unfold nr
    rw [cn_congr (q := fun _ => false) (fun i hi => ?_)]
    · clear hj
      induction j with
      | zero => rfl
      | succ j ih => rw [cn, ih]; rfl
    · cases hr : rn f i with
      | false => exact prB_f1 hr
      | true => exact prB_f2 (by have := en_lt hw (by omega) hr; omega)
  have z2 : ovS I f NY NR e 12 = 0 := by
    unfold ovS
    rw [sm_congr (g := fun _ => 0) (fun y hy => ?_), sm_zero]
    rw [hn y 12 (by omega), Nat.zero_sub]
    exact Int32.zero_mul
  have z3 : spS f e 12 = 0 := by
    unfold spS
    rw [sm_congr (g := fun _ => 0) (fun i hi => ?_), sm_zero]
    rw [if_neg]
    intro q
    have := en_lt hw hi q.1
    omega
  rw [mbill_is hg h8, z1, z2, z3]
  rfl
theorem c_charge (hI : bI I) (v : Nat → Int32) (hv : ∀ e, e < 6 → I 177 (e * 1 + 0) = v e) : ∃ J', dd_X0_charge 175 32 (S0, I, J, x) = some ((), (S0, I, J', x)) ∧ (∀ r, r ≠ 41 → J' r = J r) ∧ ∀ e, e < 6 → J' 41 e = J 41 e + (v e).toInt64 := by
  unfold dd_X0_charge
  obtain ⟨J', n', e, h1, h2, h3⟩ := lp_ex0 (fun n k (z : Nat → Nat → Int64) => bb_X0_charge_2 n 175 32 k (S0, I, z, x)) 6 (by omega) (fun j z => (∀ r, r ≠ 41 → z r = J r) ∧ (∀ e, e < j → z 41 e = J 41 e + (v e).toInt64) ∧ (∀ e, j ≤ e → z 41 e = J 41 e)) (fun n j z hj hP => by
    obtain ⟨p1, p2, p3⟩ := hP
    refine ⟨ab_u z 41 j (z 41 j + (v j).toInt64), ?_, fun r hr => ?_, fun e he => ?_, fun e he => ?_⟩
    · show bb_X0_charge_2 (n + 1) 175 32 (nI j) (S0, I, z, x) = _
      have hv' : I (176 + 1) (j * 1 + 0) = v j := hv j hj
      rw [bb_X0_charge_2, if_neg (by rw [li_n 6, li_le (by omega) (by omega)]; omega), fR_X0_0 okB, ob_s, rc_X10 tbD.1, ob_s, tb_get tbD hI.1 rfl li_0 hj (by omega), ob_s, e_rc, ob_s, si_charge si31 _ rfl hj, ob_s, hv']
    · rw [u_r hr]; exact p1 r hr
    · by_cases e1 : e = j
      · rw [e1, u_e, p3 j (Nat.le_refl _)]
      · rw [u_k e1]; exact p2 e (by omega)
    · rw [u_k (by omega)]; exact p3 e (by omega)) J ⟨fun _ _ => rfl, fun e he => by omega, fun _ _ => rfl⟩
  refine ⟨J', ?_, h1, h2⟩
  refine e.trans ?_
  show bb_X0_charge_2 (n' + 1) 175 32 (nI 6) (S0, I, J', x) = _
  rw [bb_X0_charge_2, if_pos (by decide)]
/-- rows that an hour of the class leaves -/
def hrow (I I' : Nat → Nat → Int32) : Prop := ∀ r, r < 32 ∨ (42 ≤ r ∧ r < 176) ∨ 180 ≤ r → I' r = I r
theorem InvC_hrow (hc : InvC I J NH NY NE f u tp H b S) (o : hrow I I') (hb : bI I') (k : ∀ r, r ≠ 41 → J' r = J r) (hr : RS I' J' NH NY NE 32 g) : InvC I' J' NH NY NE g u tp H b S := by
  obtain ⟨_, ⟨a, a2, a3, a4, a5, a6⟩, hH, hS⟩ := hc
  have s2 : sam 201 207 I I' := fun r h1 h2 => o r (by omega)
  refine ⟨hr, ⟨?_, fun k hk => ?_, hb, ?_, ?_, ?_⟩, HiC_sam hH (fun r h1 h2 => o r (by omega)) s2 (fun r h1 h2 => k r (by omega)), SvC_sam hS (by rw [o 52 (by omega)]) (fun r h1 h2 => o r (by omega)) s2 (fun r h1 h2 => k r (by omega))⟩
  · unfold siI tI at a ⊢
    rw [o (42 + 1) (by omega), o (42 + 3) (by omega), o (42 + 5) (by omega), o (42 + 7) (by omega)]
    exact a
  · have q := a2 k hk
    unfold siI tI at q ⊢
    rw [o (55 + 10 * k + 1) (by omega), o (55 + 10 * k + 3) (by omega), o (55 + 10 * k + 5) (by omega), o (55 + 10 * k + 7) (by omega)]
    exact q
  · unfold tI at a4 ⊢
    rw [o 183 (by omega)]
    exact a4
  · unfold tP tI at a5 ⊢
    rw [o 198 (by omega), o 193 (by omega)]
    exact a5
  · unfold clI tI at a6 ⊢
    rw [o (4 + 1) (by omega), o (4 + 3) (by omega), o (4 + 5) (by omega), o (4 + 7) (by omega), o (4 + 9) (by omega)]
    exact a6
end PA
