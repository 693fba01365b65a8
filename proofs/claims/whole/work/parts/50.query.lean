/-! ===== questions: class and model answer alike ===== -/
theorem okC : ok_X11 0 := rfl
theorem si31 : siT 32 := ⟨rfl, ⟨rfl, rfl, by decide, by decide⟩, ⟨rfl, rfl, by decide, by decide⟩, ⟨rfl, rfl, by decide, by decide⟩, ⟨rfl, rfl, by decide, by decide⟩, rfl⟩
theorem si41 : siT 42 := ⟨rfl, ⟨rfl, rfl, by decide, by decide⟩, ⟨rfl, rfl, by decide, by decide⟩, ⟨rfl, rfl, by decide, by decide⟩, ⟨rfl, rfl, by decide, by decide⟩, rfl⟩
theorem cl17 : clT 18 := ⟨rfl, ⟨rfl, rfl, by decide, by decide⟩, ⟨rfl, rfl, by decide, by decide⟩, ⟨rfl, rfl, by decide, by decide⟩, ⟨rfl, rfl, by decide, by decide⟩, ⟨rfl, rfl, by decide, by decide⟩, rfl, rfl, rfl⟩
theorem cl3 : clT 4 := ⟨rfl, ⟨rfl, rfl, by decide, by decide⟩, ⟨rfl, rfl, by decide, by decide⟩, ⟨rfl, rfl, by decide, by decide⟩, ⟨rfl, rfl, by decide, by decide⟩, ⟨rfl, rfl, by decide, by decide⟩, rfl, rfl, rfl⟩
/-- cloud and present situation -/
def Q (I : Nat → Nat → Int32) (J : Nat → Nat → Int64) (NH NY NE NR : Nat) : Prop :=
  mc I NH NY NE NR ∧ mrg I NH NY NE NR ∧ clR I NH NY NE NR ∧ sr I NY 32 (J 201) ∧ wff I NH NY NE (J 201) ∧ spR J 32 (J 201)
/-- a question: the same answer, or both throw -/
def Qry (cl : ab_Mm → Option ((Int32 ⊕ Nat) × ab_Mm)) (md : ab_Mm → Option (Int32 × ab_Mm)) (I : Nat → Nat → Int32) (J : Nat → Nat → Int64) (x : Nat) : Prop :=
  ∃ (ok : Bool) (v : Int32), cl (S0, I, J, x) = some (if ok then .inl v else .inr 0, (S0, I, J, if ok then x else x + 1)) ∧
    ∀ (J' : Nat → Nat → Int64) (x' : Nat), J' 201 = J 201 → md (S0, I, J', x') = some (if ok then v else 0, (S0, th I (if ok then 0 else 1), J', x'))
section QU
variable {I : Nat → Nat → Int32} {J : Nat → Nat → Int64} {x : Nat} {NH NY NE NR : Nat}
theorem c_R1 : ab_fR (S0, I, J, x) 11 0 1 = some 18 := op_fR okC rfl
theorem c_R2 : ab_fR (S0, I, J, x) 11 0 2 = some 32 := op_fR okC rfl
theorem c_rc : ab_rc (S0, I, J, x) 11 0 = some () := op_rc okC
theorem d_R0 : ab_fR (S0, I, J, x) 1 18 0 = some 19 := op_fR cl17.1 rfl
theorem d_R1 : ab_fR (S0, I, J, x) 1 18 1 = some 21 := op_fR cl17.1 rfl
theorem d_R2 : ab_fR (S0, I, J, x) 1 18 2 = some 23 := op_fR cl17.1 rfl
theorem d_R3 : ab_fR (S0, I, J, x) 1 18 3 = some 25 := op_fR cl17.1 rfl
theorem d_R4 : ab_fR (S0, I, J, x) 1 18 4 = some 27 := op_fR cl17.1 rfl
theorem e_R2 : ab_fR (S0, I, J, x) 8 32 2 = some 33 := op_fR si31.1 rfl
theorem e_R3 : ab_fR (S0, I, J, x) 8 32 3 = some 35 := op_fR si31.1 rfl
theorem e_R4 : ab_fR (S0, I, J, x) 8 32 4 = some 37 := op_fR si31.1 rfl
theorem e_R5 : ab_fR (S0, I, J, x) 8 32 5 = some 39 := op_fR si31.1 rfl
theorem e_F0 : ab_fI (S0, I, J, x) 8 32 0 = some (I 32 0) := op_fI si31.1 rfl
theorem e_F1 : ab_fI (S0, I, J, x) 8 32 1 = some (I 32 1) := op_fI si31.1 rfl
theorem e_rc : ab_rc (S0, I, J, x) 8 32 = some () := op_rc si31.1
theorem d_rc : ab_rc (S0, I, J, x) 1 18 = some () := op_rc cl17.1
theorem t_18 : ab_rc (S0, I, J, x) 10 19 = some () := op_rc cl17.2.1.1
theorem t_20 : ab_rc (S0, I, J, x) 10 21 = some () := op_rc cl17.2.2.1.1
theorem t_22 : ab_rc (S0, I, J, x) 10 23 = some () := op_rc cl17.2.2.2.1.1
theorem t_24 : ab_rc (S0, I, J, x) 10 25 = some () := op_rc cl17.2.2.2.2.1.1
theorem t_32 : ab_rc (S0, I, J, x) 10 33 = some () := op_rc si31.2.1.1
theorem t_34 : ab_rc (S0, I, J, x) 10 35 = some () := op_rc si31.2.2.1.1
theorem t_36 : ab_rc (S0, I, J, x) 10 37 = some () := op_rc si31.2.2.2.1.1
theorem t_38 : ab_rc (S0, I, J, x) 10 39 = some () := op_rc si31.2.2.2.2.1.1
theorem has_in (a : Int32) {n : Nat} (hn : n < 1000) : (if a < 0 then (0 : Int32) else if nI n ≤ a then 0 else 1) = if inN a n then 1 else 0 := by
  have e1 : (a < 0) = (a.toInt < 0) := by rw [Int32.lt_iff_toInt_lt]; rfl
  have e2 : (nI n ≤ a) = ((n : Int) ≤ a.toInt) := by rw [Int32.le_iff_toInt_le, nI_toInt (by omega)]
  by_cases h1 : a < 0
  · rw [if_pos h1]
    rw [e1] at h1
    rw [if_neg]; simp [inN]; omega
  · rw [if_neg h1]
    rw [e1] at h1
    by_cases h2 : nI n ≤ a
    · rw [if_pos h2]
      rw [e2] at h2
      rw [if_neg]; simp [inN]; omega
    · rw [if_neg h2]
      rw [e2] at h2
      rw [if_pos]; simp [inN]; omega
theorem c_need {t n : Nat} (ht : ok_X10 t) (hn : I t 3 = nI n) (h : n < 1000) (a : Int32) : dd_X11_needRow 0 t a (S0, I, J, x) = some (if inN a n then .inl () else .inr 0, (S0, I, J, if inN a n then x else x + 1)) := by
  unfold dd_X11_needRow
  rw [rc_X10 ht, ob_s, tb_has ht, ob_s, hn, has_in a h]
  cases inN a n <;> rfl
theorem c_inst (hs : sr I NY 32 (J 201)) (a : Int32) : dd_X11_needInstance 0 a (S0, I, J, x) = some (if inR (J 201) a then .inl () else .inr 0, (S0, I, J, if inR (J 201) a then x else x + 1)) := by
  unfold dd_X11_needInstance inR
  simp only [c_R2, e_rc, ob_s]
  have e : dd_X8_runs 32 a (S0, I, J, x) = some (if inN a 12 && rn (J 201) a.toNatClampNeg then 1 else 0, (S0, I, J, x)) := by
    cases h : inN a 12 with
    | true =>
      obtain ⟨j, hj, rfl⟩ := inN_ex h (by omega)
      rw [si_runsN si31 hj, sr_ru hs hj, nI_clamp (by omega)]
      rfl
    | false =>
      have q := has_in a (show 12 < 1000 by omega)
      rw [h] at q
      rw [si_runs si31]
      have h12 : nI 12 = 12 := rfl
      rw [h12] at q
      simp only [Bool.false_eq_true, if_false, Bool.false_and] at q ⊢
      by_cases h1 : a < 0
      · rw [if_pos h1]
      · rw [if_neg h1] at q ⊢
        by_cases h2 : (12 : Int32) ≤ a
        · rw [if_pos h2]
        · rw [if_neg h2] at q; exact absurd q (by decide)
  rw [e, ob_s]
  cases (inN a 12 && rn (J 201) a.toNatClampNeg) <;> rfl
theorem q_free (q : Q I J NH NY NE NR) (a b : Int32) : Qry (dd_X11_free 0 a b) (dd_X12_free 200 a b) I J x := by
  obtain ⟨hc, hg, hl, hs, hf, -⟩ := q
  have h8 := hc.2.1
  refine ⟨inN a NH, if b = 0 then fre I (J 201) a.toNatClampNeg 0 else fre I (J 201) a.toNatClampNeg 1, ?_, fun J' x' hJ => ?_⟩
  · unfold dd_X11_free
    simp only [c_R1, d_R0, c_rc, ob_s, c_need (I := I) cl17.2.1.1 hl.2.1.1 (show NH < 1000 by omega)]
    cases h : inN a NH with
    | false => rfl
    | true =>
      obtain ⟨j, hj, rfl⟩ := inN_ex h (by omega)
      simp only [if_true, c_R1, c_R2, ob_s, bb_X11_free_30, e_rc, nI_clamp (show j < 2 ^ 31 by omega)]
      rw [si_left si31 hs.1 cl17 hl.1 rfl li_0 (show j < 8 by omega) (by omega), si_left si31 hs.1 cl17 hl.1 rfl (li_n 1) (show j < 8 by omega) (by omega), sr_lf hl hs hj h8 (by omega), sr_lf hl hs hj h8 (by omega)]
      by_cases hb : b = 0
      · rw [if_pos hb, if_pos hb]; rfl
      · rw [if_neg hb, if_neg hb]; rfl
  · have hw : wfs NH NY NE (J' 201) := hJ ▸ hf.2.2.1
    unfold dd_X12_free
    simp only [m_rc, ob_s, m_noHost hc, bo_if]
    cases h : inN a NH with
    | false => rfl
    | true =>
      obtain ⟨j, hj, rfl⟩ := inN_ex h (by omega)
      simp only [Bool.not_true, if_true, bb_X12_free_23, bb_X12_free_26, m_rc, ob_s, m_free0 hw h8 hc.2.2.1 (show j < 8 by omega), m_free1 hw h8 hc.2.2.1 (show j < 8 by omega), nI_clamp (show j < 2 ^ 31 by omega), hJ]
      by_cases hb : b = 0
      · rw [if_pos hb, if_pos hb]; rfl
      · rw [if_neg hb, if_neg hb]; rfl
theorem q_instancesOn (q : Q I J NH NY NE NR) (a : Int32) : Qry (dd_X11_instancesOn 0 a) (dd_X12_instancesOn 200 a) I J x := by
  obtain ⟨hc, hg, hl, hs, hf, -⟩ := q
  have h8 := hc.2.1
  refine ⟨inN a NH, sets (fun i => rn (J 201) i && decide (ho (J 201) i = a.toNatClampNeg)), ?_, fun J' x' hJ => ?_⟩
  · unfold dd_X11_instancesOn
    simp only [c_R1, d_R0, c_rc, ob_s, c_need (I := I) cl17.2.1.1 hl.2.1.1 (show NH < 1000 by omega)]
    cases h : inN a NH with
    | false => rfl
    | true =>
      obtain ⟨j, hj, rfl⟩ := inN_ex h (by omega)
      simp only [if_true, c_R2, ob_s, e_rc, nI_clamp (show j < 2 ^ 31 by omega)]
      rw [si_setOn si31 hs.1, sr_on hf.2.2.1 hs h8 (show j < 8 by omega)]
      rfl
  · have hw : wfs NH NY NE (J' 201) := hJ ▸ hf.2.2.1
    unfold dd_X12_instancesOn
    simp only [m_rc, ob_s, m_noHost hc, bo_if]
    cases h : inN a NH with
    | false => rfl
    | true =>
      obtain ⟨j, hj, rfl⟩ := inN_ex h (by omega)
      simp only [Bool.not_true, if_true, bb_X12_instancesOn_17, m_rc, ob_s, m_onHost hw h8 (show j < 8 by omega), nI_clamp (show j < 2 ^ 31 by omega), hJ]
theorem q_spotPrice (q : Q I J NH NY NE NR) (a : Int32) : Qry (dd_X11_spotPrice 0 a) (dd_X12_spotPrice 200 a) I J x := by
  obtain ⟨hc, hg, hl, hs, hf, -⟩ := q
  have h8 := hc.2.2.1
  refine ⟨inN a NY, (J 201 (2 + a.toNatClampNeg)).toInt32, ?_, fun J' x' hJ => ?_⟩
  · unfold dd_X11_spotPrice
    simp only [c_R1, d_R1, c_rc, ob_s, c_need (I := I) cl17.2.2.1.1 hl.2.1.2.1 (show NY < 1000 by omega)]
    cases h : inN a NY with
    | false => rfl
    | true =>
      obtain ⟨j, hj, rfl⟩ := inN_ex h (by omega)
      simp only [if_true, c_R2, ob_s, e_R4, t_36, nI_clamp (show j < 2 ^ 31 by omega)]
      rw [si_getp (s := 32) si31 hs.1 rfl rfl (show j < 6 by omega), hs.2.2.2.2.1 j hj]
      rfl
  · unfold dd_X12_spotPrice
    simp only [m_rc, ob_s, m_noType hc, bo_if]
    cases h : inN a NY with
    | false => rfl
    | true =>
      obtain ⟨j, hj, rfl⟩ := inN_ex h (by omega)
      have e2 : (2 : Int32) + nI j = nI (2 + j) := li_add 2 _
      simp only [Bool.not_true, if_true, bb_X12_spotPrice_21, m_R1, ob_s, e2, m_now (show 2 + j < 116 by omega), nI_clamp (show j < 2 ^ 31 by omega), hJ]
theorem q_bestHost (q : Q I J NH NY NE NR) (a : Int32) : Qry (dd_X11_bestHost 0 a) (dd_X12_bestHost 200 a) I J x := by
  obtain ⟨hc, hg, hl, hs, hf, -⟩ := q
  have h8 := hc.2.1
  have h6 := hc.2.2.1
  refine ⟨inN a NY, (mbest I (J 201) a.toNatClampNeg NH).1, ?_, fun J' x' hJ => ?_⟩
  · unfold dd_X11_bestHost
    simp only [c_R1, d_R1, c_rc, ob_s, c_need (I := I) cl17.2.2.1.1 hl.2.1.2.1 (show NY < 1000 by omega)]
    cases h : inN a NY with
    | false => rfl
    | true =>
      obtain ⟨j, hj, rfl⟩ := inN_ex h (by omega)
      simp only [if_true, c_R1, c_R2, ob_s, e_rc, nI_clamp (show j < 2 ^ 31 by omega)]
      rw [si_best si31 hs.1 cl17 hl.1 rfl (show j < 6 by omega) hl.2.1.1 h8, sr_best hl hg hf.2.2.1 hs hj h8]
      rfl
  · have hw : wfs NH NY NE (J' 201) := hJ ▸ hf.2.2.1
    unfold dd_X12_bestHost
    simp only [m_rc, ob_s, m_noType hc, bo_if]
    cases h : inN a NY with
    | false => rfl
    | true =>
      obtain ⟨j, hj, rfl⟩ := inN_ex h (by omega)
      have hc' : mc (th I 0) NH NY NE NR := hc
      simp only [Bool.not_true, if_true, bb_X12_bestHost_17, m_rc, ob_s, m_best hc' hw (show j < 6 by omega), nI_clamp (show j < 2 ^ 31 by omega), hJ]
      rfl
theorem q_typeOf (q : Q I J NH NY NE NR) (a : Int32) : Qry (dd_X11_typeOf 0 a) (dd_X12_typeOf 200 a) I J x := by
  obtain ⟨hc, hg, hl, hs, hf, -⟩ := q
  refine ⟨inR (J 201) a, (vi (J 201) a.toNatClampNeg 1).toInt32, ?_, fun J' x' hJ => ?_⟩
  · unfold dd_X11_typeOf
    simp only [c_rc, ob_s, c_inst hs]
    cases h : inR (J 201) a with
    | false => rfl
    | true =>
      have hb := (Bool.and_eq_true _ _).mp h
      obtain ⟨j, hj, rfl⟩ := inN_ex hb.1 (by omega)
      rw [nI_clamp (by omega)] at hb
      simp only [if_true, c_R2, ob_s, e_R2, t_32, nI_clamp (show j < 2 ^ 31 by omega)]
      rw [si_get (s := 32) si31 hs.1 rfl (li_n 1) hj (by omega), (hs.2.2.2.1 j hj hb.2).2.1]
      rfl
  · unfold dd_X12_typeOf
    simp only [m_rc, ob_s, m_noInstance, bo_if, hJ]
    cases h : inR (J 201) a with
    | false => rfl
    | true =>
      have hb := (Bool.and_eq_true _ _).mp h
      obtain ⟨j, hj, rfl⟩ := inN_ex hb.1 (by omega)
      simp only [Bool.not_true, if_true, bb_X12_typeOf_18, m_rc, ob_s, m_its1 hj, nI_clamp (show j < 2 ^ 31 by omega), hJ]
end QU
