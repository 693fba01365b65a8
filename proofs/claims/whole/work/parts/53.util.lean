/-! ===== totals; utilisation; what was spent ===== -/
section UT
variable {I : Nat → Nat → Int32} {J : Nat → Nat → Int64} {x : Nat} {NH NY NE NR s : Nat} {f : Nat → Int64}
theorem tot_h (hl : clR I NH NY NE NR) (h8 : NH ≤ 8) : sm (fun r => I (19 + 1) (r * 2 + 0)) 8 = mall I NH := by
  unfold mall
  have e : sm (fun r => I (19 + 1) (r * 2 + 0)) (NH + (8 - NH)) = sm (fun r => I (19 + 1) (r * 2 + 0)) NH := sm_ext (fun k h1 h2 => hl.2.2.2.1 k h1 (by omega))
  rw [show NH + (8 - NH) = 8 by omega] at e
  rw [e]
  exact sm_congr (fun k hk => hl.2.2.1 k hk 0 (by omega))
theorem tot_l (hs : sr I NY s f) (hw : wfs NH NY NE f) (h8 : NH ≤ 8) : sm (fun h => gl I s h 0) 8 = mload I f := by
  rw [sm_congr (g := fun h => sm (fun i => if rn f i = true ∧ ho f i = h then mt I (ty f i) 0 else 0) 12) (fun h hh => hs.2.2.2.2.2.1 h hh 0 (by omega))]
  rw [sm_swap]
  refine sm_congr (fun i hi => ?_)
  show sm (fun h => if rn f i = true ∧ ho f i = h then mt I (ty f i) 0 else 0) 8 = if rn f i = true then mt I (ty f i) 0 else 0
  cases hr : rn f i with
  | false =>
    simp only [Bool.false_eq_true, false_and, if_false]
    exact sm_zero 8
  | true =>
    have := ho_lt hw hi hr
    rw [sm_one (j := ho f i) (by omega) (fun k hk hne => if_neg (fun w => hne w.2.symm))]
    simp
def maN (I : Nat → Nat → Int32) (n : Nat) : Nat := sn (fun h => hN I h 0) n
theorem hN64 (hg : mrg I NH NY NE NR) {h : Nat} (hh : h < NH) : 1 ≤ hN I h 0 ∧ hN I h 0 ≤ 64 := (isr_n (hg.1 h hh).1 (by omega)).2
theorem tN64 (hg : mrg I NH NY NE NR) {y : Nat} (hy : y < NY) : 1 ≤ tN I y 0 ∧ tN I y 0 ≤ 64 := (isr_n (hg.2.1 y hy).1 (by omega)).2
theorem sn_ge {g : Nat → Nat} : ∀ {n : Nat}, (∀ k, k < n → 1 ≤ g k) → n ≤ sn g n
  | 0, _ => Nat.zero_le _
  | n + 1, h => by
    have h1 := sn_ge (n := n) (fun k hk => h k (by omega))
    have h2 := h n (by omega)
    rw [sn]
    omega
theorem mall_is (hg : mrg I NH NY NE NR) (h8 : NH ≤ 8) : mall I NH = nI (maN I NH) ∧ NH ≤ maN I NH ∧ maN I NH ≤ 512 := by
  refine ⟨sn_sm (fun h hh => (hN_is hg hh (by omega)).1), sn_ge (fun h hh => (hN64 hg hh).1), ?_⟩
  have := sn_le (g := fun h => hN I h 0) (B := 64) (n := NH) (fun h hh => (hN64 hg hh).2)
  unfold maN
  omega
theorem mall_0 (hg : mrg I NH NY NE NR) (h8 : NH ≤ 8) : (mall I NH ≤ 0) = (NH = 0) := by
  have q := mall_is hg h8
  rw [q.1, li_0, li_le (by omega) (by omega)]
  refine propext ⟨fun h => by omega, fun h => ?_⟩
  subst h
  exact Nat.le_refl 0
def mlN (I : Nat → Nat → Int32) (f : Nat → Int64) : Nat := sn (fun i => if rn f i = true then tN I (ty f i) 0 else 0) 12
theorem mload_is (hg : mrg I NH NY NE NR) (hw : wfs NH NY NE f) : mload I f = nI (mlN I f) ∧ mlN I f ≤ 768 := by
  constructor
  · refine sn_sm (fun i hi => ?_)
    cases hr : rn f i with
    | false => rfl
    | true => exact (tN_is hg (ty_lt hw hi hr) (by omega)).1
  · refine sn_le (B := 64) (n := 12) (fun i hi => ?_)
    cases hr : rn f i with
    | false => exact Nat.zero_le _
    | true => exact (tN64 hg (ty_lt hw hi hr)).2
theorem a_utilisation (q : Q I J NH NY NE NR) : Ask (dd_X11_utilisation 0) (dd_X12_utilisation 200) I J x := by
  obtain ⟨hc, hg, hl, hs, hf, hp⟩ := q
  have h8 := hc.2.1
  have hw := hf.2.2.1
  have qa := mall_is hg h8
  have ql := mload_is hg hw
  have hc' : mc (th I 0) NH NY NE NR := hc
  by_cases h0 : NH = 0
  · refine ⟨FP.dconst0, ?_, ?_⟩
    · unfold dd_X11_utilisation
      simp only [c_R1, d_R0, t_18, ob_s]
      rw [tb_total cl17.2.1 hl.1.1 li_0 (by omega), ob_s]
      have e : sm (fun r => I (19 + 1) (r * 2 + 0)) 8 ≤ 0 := by rw [tot_h hl h8, mall_0 hg h8]; exact h0
      rw [if_pos e]
      rfl
    · unfold dd_X12_utilisation
      simp only [m_P0, ob_s, m_rc, m_R1, m_R2, m_R3, m_R4, m_R5, m_R6, m_R7, m_R8, m_R9, m_F0, m_to0, hc'.1.1]
      rw [if_pos (by rw [h0]; rfl)]
      rfl
  · have hok := dv_ok (a := mlN I (J 201)) (b := maN I NH) (by omega) (by omega) (by omega)
    refine ⟨FP.ddiv (FP.i2d (mload I (J 201))) (FP.i2d (mall I NH)), ?_, ?_⟩
    · unfold dd_X11_utilisation
      simp only [c_R1, d_R0, t_18, ob_s]
      rw [tb_total cl17.2.1 hl.1.1 li_0 (by omega), ob_s]
      have e : ¬ sm (fun r => I (19 + 1) (r * 2 + 0)) 8 ≤ 0 := by rw [tot_h hl h8, mall_0 hg h8]; exact h0
      rw [if_neg e]
      simp only [c_R2, e_R5, t_38, ob_s]
      rw [tb_total si31.2.2.2.2.1 hs.1.2.2.2 li_0 (by omega), ob_s]
      have e2 : sm (fun r => I (39 + 1) (r * 2 + 0)) 8 = mload I (J 201) := tot_l (s := 32) hs hw h8
      show (if ¬ ((FP.ddiv (FP.i2d (sm (fun r => I (39 + 1) (r * 2 + 0)) 8)) (FP.i2d (sm (fun r => I (19 + 1) (r * 2 + 0)) 8))) &&& 0x7fffffffffffffff ≤ 0x7ff0000000000000) then none else bb_X11_utilisation_35 (FP.ddiv (FP.i2d (sm (fun r => I (39 + 1) (r * 2 + 0)) 8)) (FP.i2d (sm (fun r => I (19 + 1) (r * 2 + 0)) 8))) (S0, I, J, x)) = _
      rw [e2, tot_h hl h8, qa.1, ql.1, if_neg (not_not_intro hok)]
      rfl
    · unfold dd_X12_utilisation
      simp only [m_P0, ob_s, m_rc, m_R1, m_R2, m_R3, m_R4, m_R5, m_R6, m_R7, m_R8, m_R9, m_F0, m_to0, hc'.1.1]
      rw [if_neg (by rw [li_0, li_eq (by omega) (by omega)]; exact h0)]
      simp only [ob_s, m_rc, m_R1, m_R2, m_R3, m_R4, m_R5, m_R6, m_R7, m_R8, m_R9, m_F0, m_load hw hc.2.2.1, m_all hc']
      have e1 : mload (th I 0) (J 201) = mload I (J 201) := rfl
      have e2 : mall (th I 0) NH = mall I NH := rfl
      rw [e1, e2, qa.1, ql.1, if_neg (not_not_intro hok)]
      rfl
def QryL (cl : ab_Mm → Option ((Int64 ⊕ Nat) × ab_Mm)) (md : ab_Mm → Option (Int64 × ab_Mm)) (I : Nat → Nat → Int32) (J : Nat → Nat → Int64) (x : Nat) : Prop :=
  ∃ (ok : Bool) (v : Int64), cl (S0, I, J, x) = some (if ok then .inl v else .inr 0, (S0, I, J, if ok then x else x + 1)) ∧
    ∀ (J' : Nat → Nat → Int64) (x' : Nat), J' 201 = J 201 → md (S0, I, J', x') = some (if ok then v else 0, (S0, th I (if ok then 0 else 1), J', x'))
theorem q_spent (q : Q I J NH NY NE NR) (a : Int32) : QryL (dd_X11_spent 0 a) (dd_X12_spent 200 a) I J x := by
  obtain ⟨hc, hg, hl, hs, hf, hp⟩ := q
  have h6e := hc.2.2.2.1
  refine ⟨inN a NE, J 201 (8 + a.toNatClampNeg), ?_, fun J' x' hJ => ?_⟩
  · unfold dd_X11_spent
    simp only [c_R1, d_R2, c_rc, ob_s, c_need (I := I) cl17.2.2.2.1.1 hl.2.1.2.2.1 (show NE < 1000 by omega)]
    cases h : inN a NE with
    | false => rfl
    | true =>
      obtain ⟨e, he, rfl⟩ := inN_ex h (by omega)
      simp only [if_true, c_R2, e_rc, ob_s, si_spent si31 rfl (show e < 6 by omega), nI_clamp (show e < 2 ^ 31 by omega), hp e (show e < 6 by omega)]
  · unfold dd_X12_spent
    simp only [m_rc, ob_s, m_noTenant hc, bo_if]
    cases h : inN a NE with
    | false => rfl
    | true =>
      obtain ⟨e, he, rfl⟩ := inN_ex h (by omega)
      have e2 : (8 : Int32) + nI e = nI (8 + e) := li_add 8 _
      simp only [Bool.not_true, if_true, ob_s, m_rc, m_R1, m_R2, m_R3, m_R4, m_R5, m_R6, m_R7, m_R8, m_R9, m_F0, e2, m_now (show 8 + e < 116 by omega), bb_X12_spent_21, nI_clamp (show e < 2 ^ 31 by omega), hJ]
end UT
