/-! ===== further questions ===== -/
section QV
variable {I : Nat → Nat → Int32} {J : Nat → Nat → Int64} {x : Nat} {NH NY NE NR : Nat}
theorem q_tenantOf (q : Q I J NH NY NE NR) (a : Int32) : Qry (dd_X11_tenantOf 0 a) (dd_X12_tenantOf 200 a) I J x := by
  obtain ⟨hc, hg, hl, hs, hf, -⟩ := q
  refine ⟨inR (J 201) a, (vi (J 201) a.toNatClampNeg 0).toInt32, ?_, fun J' x' hJ => ?_⟩
  · unfold dd_X11_tenantOf
    simp only [c_rc, ob_s, c_inst hs]
    cases h : inR (J 201) a with
    | false => rfl
    | true =>
      have hb := (Bool.and_eq_true _ _).mp h
      obtain ⟨j, hj, rfl⟩ := inN_ex hb.1 (by omega)
      rw [nI_clamp (by omega)] at hb
      simp only [if_true, c_R2, ob_s, e_R2, t_32, nI_clamp (show j < 2 ^ 31 by omega)]
      rw [si_get (s := 32) si31 hs.1 rfl li_0 hj (by omega), (hs.2.2.2.1 j hj hb.2).1]
      rfl
  · unfold dd_X12_tenantOf
    simp only [m_rc, ob_s, m_noInstance, bo_if, hJ]
    cases h : inR (J 201) a with
    | false => rfl
    | true =>
      have hb := (Bool.and_eq_true _ _).mp h
      obtain ⟨j, hj, rfl⟩ := inN_ex hb.1 (by omega)
      simp only [Bool.not_true, if_true, bb_X12_tenantOf_18, m_rc, ob_s, m_its0 hj, nI_clamp (show j < 2 ^ 31 by omega), hJ]
theorem q_hostOf (q : Q I J NH NY NE NR) (a : Int32) : Qry (dd_X11_hostOf 0 a) (dd_X12_hostOf 200 a) I J x := by
  obtain ⟨hc, hg, hl, hs, hf, -⟩ := q
  refine ⟨inR (J 201) a, (vi (J 201) a.toNatClampNeg 2).toInt32, ?_, fun J' x' hJ => ?_⟩
  · unfold dd_X11_hostOf
    simp only [c_rc, ob_s, c_inst hs]
    cases h : inR (J 201) a with
    | false => rfl
    | true =>
      have hb := (Bool.and_eq_true _ _).mp h
      obtain ⟨j, hj, rfl⟩ := inN_ex hb.1 (by omega)
      rw [nI_clamp (by omega)] at hb
      simp only [if_true, c_R2, ob_s, e_R2, t_32, nI_clamp (show j < 2 ^ 31 by omega)]
      rw [si_get (s := 32) si31 hs.1 rfl (li_n 3) hj (by omega), (hs.2.2.2.1 j hj hb.2).2.2.2.1]
      rfl
  · unfold dd_X12_hostOf
    simp only [m_rc, ob_s, m_noInstance, bo_if, hJ]
    cases h : inR (J 201) a with
    | false => rfl
    | true =>
      have hb := (Bool.and_eq_true _ _).mp h
      obtain ⟨j, hj, rfl⟩ := inN_ex hb.1 (by omega)
      simp only [Bool.not_true, if_true, bb_X12_hostOf_18, m_rc, ob_s, m_its2 hj, nI_clamp (show j < 2 ^ 31 by omega), hJ]
theorem q_bidOf (q : Q I J NH NY NE NR) (a : Int32) : Qry (dd_X11_bidOf 0 a) (dd_X12_bidOf 200 a) I J x := by
  obtain ⟨hc, hg, hl, hs, hf, -⟩ := q
  refine ⟨inR (J 201) a, (vi (J 201) a.toNatClampNeg 3).toInt32, ?_, fun J' x' hJ => ?_⟩
  · unfold dd_X11_bidOf
    simp only [c_rc, ob_s, c_inst hs]
    cases h : inR (J 201) a with
    | false => rfl
    | true =>
      have hb := (Bool.and_eq_true _ _).mp h
      obtain ⟨j, hj, rfl⟩ := inN_ex hb.1 (by omega)
      rw [nI_clamp (by omega)] at hb
      simp only [if_true, c_R2, ob_s, e_R2, t_32, nI_clamp (show j < 2 ^ 31 by omega)]
      rw [si_get (s := 32) si31 hs.1 rfl (li_n 2) hj (by omega), (hs.2.2.2.1 j hj hb.2).2.2.1]
      rfl
  · unfold dd_X12_bidOf
    simp only [m_rc, ob_s, m_noInstance, bo_if, hJ]
    cases h : inR (J 201) a with
    | false => rfl
    | true =>
      have hb := (Bool.and_eq_true _ _).mp h
      obtain ⟨j, hj, rfl⟩ := inN_ex hb.1 (by omega)
      simp only [Bool.not_true, if_true, bb_X12_bidOf_18, m_rc, ob_s, m_its3 hj, nI_clamp (show j < 2 ^ 31 by omega), hJ]
theorem q_noticeOf (q : Q I J NH NY NE NR) (a : Int32) : Qry (dd_X11_noticeOf 0 a) (dd_X12_noticeOf 200 a) I J x := by
  obtain ⟨hc, hg, hl, hs, hf, -⟩ := q
  refine ⟨inR (J 201) a, (vi (J 201) a.toNatClampNeg 4).toInt32, ?_, fun J' x' hJ => ?_⟩
  · unfold dd_X11_noticeOf
    simp only [c_rc, ob_s, c_inst hs]
    cases h : inR (J 201) a with
    | false => rfl
    | true =>
      have hb := (Bool.and_eq_true _ _).mp h
      obtain ⟨j, hj, rfl⟩ := inN_ex hb.1 (by omega)
      rw [nI_clamp (by omega)] at hb
      simp only [if_true, c_R2, ob_s, e_R2, t_32, nI_clamp (show j < 2 ^ 31 by omega)]
      rw [si_get (s := 32) si31 hs.1 rfl (li_n 4) hj (by omega), (hs.2.2.2.1 j hj hb.2).2.2.2.2.1]
      rfl
  · unfold dd_X12_noticeOf
    simp only [m_rc, ob_s, m_noInstance, bo_if, hJ]
    cases h : inR (J 201) a with
    | false => rfl
    | true =>
      have hb := (Bool.and_eq_true _ _).mp h
      obtain ⟨j, hj, rfl⟩ := inN_ex hb.1 (by omega)
      simp only [Bool.not_true, if_true, bb_X12_noticeOf_18, m_rc, ob_s, m_its4 hj, nI_clamp (show j < 2 ^ 31 by omega), hJ]
def rmS (I : Nat → Nat → Int32) (f : Nat → Int64) (y n : Nat) : Int32 := sm (fun h => if fre I f h 1 / mt I y 1 < fre I f h 0 / mt I y 0 then fre I f h 1 / mt I y 1 else fre I f h 0 / mt I y 0) n
theorem mt_pos (hg : mrg I NH NY NE NR) {y w : Nat} (hy : y < NY) (hw : w < 2) : 0 < mt I y w := by
  have q := tN_is hg hy hw
  rw [q.1, li_0, li_lt (by omega) (by omega)]
  omega
theorem mt_ne (hg : mrg I NH NY NE NR) {y w : Nat} (hy : y < NY) (hw : w < 2) : ¬ mt I y w = 0 := fun q => by
  have h := mt_pos hg hy hw
  rw [q] at h
  exact absurd h (by decide)
theorem min_eq (a b : Int32) : (if a ≤ b then a else b) = if a < b then a else b := by
  by_cases h : a < b
  · rw [if_pos h, if_pos (Int32.le_of_lt h)]
  · rw [if_neg h]
    by_cases h2 : a ≤ b
    · rw [if_pos h2]; exact Int32.le_antisymm h2 (Int32.not_lt.mp h)
    · rw [if_neg h2]
theorem q_room (q : Q I J NH NY NE NR) (a : Int32) : Qry (dd_X11_room 0 a) (dd_X12_room 200 a) I J x := by
  obtain ⟨hc, hg, hl, hs, hf, -⟩ := q
  have h8 := hc.2.1
  have h6 := hc.2.2.1
  refine ⟨inN a NY, rmS I (J 201) a.toNatClampNeg NH, ?_, fun J' x' hJ => ?_⟩
  · unfold dd_X11_room
    simp only [c_R1, d_R1, c_rc, ob_s, c_need (I := I) cl17.2.2.1.1 hl.2.1.2.1 (show NY < 1000 by omega)]
    cases h : inN a NY with
    | false => rfl
    | true =>
      obtain ⟨y, hy, rfl⟩ := inN_ex h (by omega)
      have t0 := hl.2.2.2.2.1 y hy 0 (by omega)
      have t1 := hl.2.2.2.2.1 y hy 1 (by omega)
      simp only [if_true, nI_clamp (show y < 2 ^ 31 by omega)]
      refine lp_sum (fun n k b => bb_X11_room_16 n 0 (nI y) b k (S0, I, J, x)) NH (by omega) _ (fun b => some (.inl b, (S0, I, J, x))) (fun n j b hj => ?_) (fun n b => ?_)
      · rw [bb_X11_room_16]
        simp only [c_R1, c_R2, d_R0, ob_s, fI_X10_3 cl17.2.1.1, hl.2.1.1, e_rc]
        rw [if_neg (by rw [li_le (by omega) (by omega)]; omega), si_roomOn si31 hs.1 cl17 hl.1 rfl rfl (show y < 6 by omega) (show j < 8 by omega) (by rw [t0]; exact mt_pos hg hy (by omega)) (by rw [t1]; exact mt_pos hg hy (by omega)), ob_s]
        rw [sr_lf hl hs hj h8 (by omega), sr_lf hl hs hj h8 (by omega), t0, t1]
      · rw [bb_X11_room_16]
        simp only [c_R1, c_R2, d_R0, ob_s, fI_X10_3 cl17.2.1.1, hl.2.1.1]
        rw [if_pos (by rw [li_le (by omega) (by omega)]; omega)]
  · have hw : wfs NH NY NE (J' 201) := hJ ▸ hf.2.2.1
    unfold dd_X12_room
    simp only [m_rc, ob_s, m_noType hc, bo_if]
    cases h : inN a NY with
    | false => rfl
    | true =>
      obtain ⟨y, hy, rfl⟩ := inN_ex h (by omega)
      simp only [Bool.not_true, if_true, nI_clamp (show y < 2 ^ 31 by omega), ← hJ]
      have hc' : mc (th I 0) NH NY NE NR := hc
      refine lp_sum (fun n k b => bb_X12_room_14 n 200 (nI y) b k (S0, th I 0, J', x')) NH (by omega) _ (fun b => some (b, (S0, th I 0, J', x'))) (fun n j b hj => ?_) (fun n b => ?_)
      · rw [bb_X12_room_14]
        simp only [ob_s, m_rc, m_R1, m_R2, m_R3, m_R4, m_R5, m_R6, m_R7, m_R8, m_R9, m_F0, m_to0, hc'.1.1]
        rw [if_neg (by rw [li_le (by omega) (by omega)]; omega)]
        simp only [ob_s, m_rc, m_R1, m_R2, m_R3, m_R4, m_R5, m_R6, m_R7, m_R8, m_R9, m_F0, m_free0 hw h8 h6 (show j < 8 by omega), m_free1 hw h8 h6 (show j < 8 by omega), m_t0 (show y < 6 by omega), m_t1 (show y < 6 by omega), bb_X12_room_75]
        have n0 : ¬ mt (th I 0) y 0 = 0 := mt_ne hg hy (by omega)
        have n1 : ¬ mt (th I 0) y 1 = 0 := mt_ne hg hy (by omega)
        rw [if_neg n0, if_neg n1, ← min_eq]
        by_cases h3 : fre (th I 0) (J' 201) j 1 / mt (th I 0) y 1 ≤ fre (th I 0) (J' 201) j 0 / mt (th I 0) y 0
        · rw [if_pos h3, if_pos (show fre I (J' 201) j 1 / mt I y 1 ≤ fre I (J' 201) j 0 / mt I y 0 from h3)]; rfl
        · rw [if_neg h3, if_neg (show ¬ fre I (J' 201) j 1 / mt I y 1 ≤ fre I (J' 201) j 0 / mt I y 0 from h3)]; rfl
      · rw [bb_X12_room_14]
        simp only [ob_s, m_rc, m_R1, m_R2, m_R3, m_R4, m_R5, m_R6, m_R7, m_R8, m_R9, m_F0, m_to0, hc'.1.1]
        rw [if_pos (by rw [li_le (by omega) (by omega)]; omega)]
theorem q_covered (q : Q I J NH NY NE NR) (a b : Int32) : Qry (dd_X11_covered 0 a b) (dd_X12_covered 200 a b) I J x := by
  obtain ⟨hc, hg, hl, hs, hf, -⟩ := q
  have h6 := hc.2.2.1
  have h6e := hc.2.2.2.1
  have h8 := hc.2.2.2.2
  refine ⟨inN a NE && inN b NY, mcov I (J 201) NR a.toNatClampNeg b.toNatClampNeg, ?_, fun J' x' hJ => ?_⟩
  · unfold dd_X11_covered
    simp only [c_R1, d_R2, c_rc, ob_s, c_need (I := I) cl17.2.2.2.1.1 hl.2.1.2.2.1 (show NE < 1000 by omega)]
    cases h : inN a NE with
    | false => rfl
    | true =>
      obtain ⟨e, he, rfl⟩ := inN_ex h (by omega)
      simp only [if_true, c_R1, d_R1, c_rc, ob_s, c_need (I := I) cl17.2.2.1.1 hl.2.1.2.1 (show NY < 1000 by omega)]
      cases h2 : inN b NY with
      | false => rfl
      | true =>
        obtain ⟨y, hy, rfl⟩ := inN_ex h2 (by omega)
        simp only [if_true, c_R1, c_R2, e_rc, d_rc, e_F0, ob_s, nI_clamp (show y < 2 ^ 31 by omega), nI_clamp (show e < 2 ^ 31 by omega), si_reg si31 hs.1, hs.2.1, cl_rsv cl17 hl.1 (nI e) (nI y) (clk (J 201)) hl.2.1.2.2.2 (show NR ≤ 8 by omega), sr_reg hf.2.2.1 hs h6 h6e (show e < 6 by omega) (show y < 6 by omega), cl_mrsv hl]
        unfold mcov
        by_cases h3 : mrsv I (J 201) NR e y < mreg (J 201) e y
        · rw [if_pos h3, if_neg (Int32.not_le.mpr h3)]; rfl
        · rw [if_neg h3, if_pos (Int32.not_lt.mp h3)]; rfl
  · have hw : wfs NH NY NE (J' 201) := hJ ▸ hf.2.2.1
    have hk : isI (J' 201 0) := hJ ▸ isn_I hf.1
    unfold dd_X12_covered
    simp only [m_rc, ob_s, m_noTenant hc, bo_if]
    cases h : inN a NE with
    | false => rfl
    | true =>
      obtain ⟨e, he, rfl⟩ := inN_ex h (by omega)
      have hc' : mc (th I 0) NH NY NE NR := hc
      have hg' : mrg (th I 0) NH NY NE NR := hg
      simp only [Bool.not_true, if_true, m_rc, ob_s, m_noType hc', bo_if]
      cases h2 : inN b NY with
      | false =>
        simp only [Bool.not_false, Bool.true_eq_false, if_false, bb_X12_covered_16, bb_X12_covered_26, Bool.false_eq_true, th_th]
        rfl
      | true =>
        obtain ⟨y, hy, rfl⟩ := inN_ex h2 (by omega)
        simp only [Bool.not_true, if_true, m_rc, ob_s, th_th, m_cov hc' hg' hk hw (show e < 6 by omega) (show y < 6 by omega), bb_X12_covered_26, nI_clamp (show y < 2 ^ 31 by omega), nI_clamp (show e < 2 ^ 31 by omega), hJ]
        rfl
theorem q_isOver (q : Q I J NH NY NE NR) (a : Int32) : Qry (dd_X11_isOverBudget 0 a) (dd_X12_isOverBudget 200 a) I J x := by
  obtain ⟨hc, hg, hl, hs, hf, hp⟩ := q
  have h6e := hc.2.2.2.1
  refine ⟨inN a NE, if mov I (J 201) a.toNatClampNeg then 1 else 0, ?_, fun J' x' hJ => ?_⟩
  · unfold dd_X11_isOverBudget
    simp only [c_R1, d_R2, c_rc, ob_s, c_need (I := I) cl17.2.2.2.1.1 hl.2.1.2.2.1 (show NE < 1000 by omega)]
    cases h : inN a NE with
    | false => rfl
    | true =>
      obtain ⟨e, he, rfl⟩ := inN_ex h (by omega)
      simp only [if_true, c_R1, c_R2, e_rc, ob_s, si_over si31 cl17 hl.1 rfl (show e < 6 by omega), sr_ov hl hp he h6e, nI_clamp (show e < 2 ^ 31 by omega), b1_ok]
  · unfold dd_X12_isOverBudget
    simp only [m_rc, ob_s, m_noTenant hc, bo_if]
    cases h : inN a NE with
    | false => rfl
    | true =>
      obtain ⟨e, he, rfl⟩ := inN_ex h (by omega)
      simp only [Bool.not_true, if_true, m_rc, ob_s, m_over (show e < 6 by omega), bo_if, nI_clamp (show e < 2 ^ 31 by omega), hJ]
      have e0 : mov (th I 0) (J 201) e = mov I (J 201) e := rfl
      rw [e0]
      cases mov I (J 201) e <;> rfl
def mpys (I : Nat → Nat → Int32) (f : Nat → Int64) (r : Nat) : Bool := mact I f r && !decide ((if mreg f (re I r) (ry I r) < mr I r 2 then mreg f (re I r) (ry I r) else mr I r 2) * mt I (ry I r) 2 ≤ mpay I r)
theorem q_pays (q : Q I J NH NY NE NR) (a : Int32) : Qry (dd_X11_pays 0 a) (dd_X12_pays 200 a) I J x := by
  obtain ⟨hc, hg, hl, hs, hf, hp⟩ := q
  have h6 := hc.2.2.1
  have h6e := hc.2.2.2.1
  have h8 := hc.2.2.2.2
  refine ⟨inN a NR, if mpys I (J 201) a.toNatClampNeg then 1 else 0, ?_, fun J' x' hJ => ?_⟩
  · unfold dd_X11_pays
    simp only [c_R1, d_R3, c_rc, ob_s, c_need (I := I) cl17.2.2.2.2.1.1 hl.2.1.2.2.2 (show NR < 1000 by omega)]
    cases h : inN a NR with
    | false => rfl
    | true =>
      obtain ⟨r, hr, rfl⟩ := inN_ex h (by omega)
      have hr8 : r < 8 := by omega
      have w := hg.2.2.2.1 r hr
      have g0 := hl.2.2.2.2.2.2.1 r hr 0 (by omega)
      have g1 := hl.2.2.2.2.2.2.1 r hr 1 (by omega)
      have g2 := hl.2.2.2.2.2.2.1 r hr 2 (by omega)
      simp only [if_true, c_R1, c_R2, d_R1, d_R3, t_24, t_20, e_rc, d_rc, e_F0, ob_s, cl_getr (c := 18) cl17 hl.1 rfl li_0 hr8 (show 0 < 6 by omega), cl_getr (c := 18) cl17 hl.1 rfl (li_n 1) hr8 (show 1 < 6 by omega), cl_getr (c := 18) cl17 hl.1 rfl (li_n 2) hr8 (show 2 < 6 by omega), si_reg si31 hs.1, hs.2.1, g0, g1, g2, w.1.1, w.2.1.1, sr_reg hf.2.2.1 hs h6 h6e (show re I r < 6 by omega) (show ry I r < 6 by omega), cl_act cl17 hl.1 (clk (J 201)) rfl hr8, cl_mact hl hr, cl_pay cl17 hl.1 rfl hr8 (g1.trans w.2.1.1) (show ry I r < 6 by omega), cl_mpay hl hg hr, cl_gett (c := 18) cl17 hl.1 rfl (li_n 2) (show ry I r < 6 by omega) (show 2 < 3 by omega), hl.2.2.2.2.1 (ry I r) w.2.1.2 2 (show 2 < 3 by omega), nI_clamp (show r < 2 ^ 31 by omega), bo_if]
      unfold mpys
      cases hm : mact I (J 201) r with
      | false => rfl
      | true =>
        simp only [Bool.true_eq_false, if_false, Bool.true_and]
        by_cases h3 : (if mreg (J 201) (re I r) (ry I r) < mr I r 2 then mreg (J 201) (re I r) (ry I r) else mr I r 2) * mt I (ry I r) 2 ≤ mpay I r
        · rw [if_pos h3]; simp [h3, bb_X11_pays_112, bb_X11_pays_113]
        · rw [if_neg h3]; simp [h3, bb_X11_pays_113]
  · have hw : wfs NH NY NE (J' 201) := hJ ▸ hf.2.2.1
    have hk : isI (J' 201 0) := hJ ▸ isn_I hf.1
    unfold dd_X12_pays
    simp only [ob_s, m_rc, m_R1, m_R2, m_R3, m_R4, m_R5, m_R6, m_R7, m_R8, m_R9, m_F0, m_to3, hc.1.2.2.2, m_noB a (show NR < 1000 by omega), bo_if]
    cases h : inN a NR with
    | false => rfl
    | true =>
      obtain ⟨r, hr, rfl⟩ := inN_ex h (by omega)
      have hr8 : r < 8 := by omega
      have hc' : mc (th I 0) NH NY NE NR := hc
      have hg' : mrg (th I 0) NH NY NE NR := hg
      have w := hg.2.2.2.1 r hr
      have w0 : mr (th I 0) r 0 = nI (re I r) := w.1.1
      have w1 : mr (th I 0) r 1 = nI (ry I r) := w.2.1.1
      have e6 : (6 : Int32) * nI r + 1 = nI (6 * r + 1) := by rw [x6, x6a]
      simp only [Bool.not_true, if_true, ob_s, m_rc, m_R1, m_R2, m_R3, m_R4, m_R5, m_R6, m_R7, m_R8, m_R9, m_F0, m_r0 hr8, m_r1 hr8, m_r2 hr8, w0, w1, m_reg hw h6 h6e (show re I r < 6 by omega) (show ry I r < 6 by omega), bb_X12_pays_65, m_act hg' hk hr hr8, m_pay hg' h6 hr hr8, m_t2 (show ry I r < 6 by omega), nI_clamp (show r < 2 ^ 31 by omega), bo_if, hJ]
      have e0 : mact (th I 0) (J 201) r = mact I (J 201) r := rfl
      rw [e0]
      unfold mpys
      have em : ∀ u v : Int32, ∀ k : Int32 → Option (Int32 × ab_Mm), (if v ≤ u then k v else k u) = k (if u < v then u else v) := by
        intro u v k
        by_cases hh : u < v
        · rw [if_pos hh, if_neg (Int32.not_le.mpr hh)]
        · rw [if_neg hh, if_pos (Int32.not_lt.mp hh)]
      cases hm : mact I (J 201) r with
      | false =>
        simp only [if_true]
        split <;> rfl
      | true =>
        simp only [Bool.true_eq_false, if_false, Bool.true_and]
        refine (em (mreg (J 201) (re I r) (ry I r)) (mr (th I 0) r 2) (fun u => if u * mt (th I 0) (ry I r) 2 ≤ mpay (th I 0) r then bb_X12_pays_107 (S0, th I 0, J', x') else bb_X12_pays_108 1 (S0, th I 0, J', x'))).trans ?_
        show (if (if mreg (J 201) (re I r) (ry I r) < mr I r 2 then mreg (J 201) (re I r) (ry I r) else mr I r 2) * mt I (ry I r) 2 ≤ mpay I r then _ else _) = _
        by_cases h3 : (if mreg (J 201) (re I r) (ry I r) < mr I r 2 then mreg (J 201) (re I r) (ry I r) else mr I r 2) * mt I (ry I r) 2 ≤ mpay I r
        · rw [if_pos h3]; simp [h3, bb_X12_pays_107, bb_X12_pays_108]
        · rw [if_neg h3]; simp [h3, bb_X12_pays_108]
end QV
