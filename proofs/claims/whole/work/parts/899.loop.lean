/-! ===== the law's loop ===== -/
section LL
variable {I I' I0 I1 I2 : Nat → Nat → Int32} {J J' J1 J2 : Nat → Nat → Int64} {x y y' : Nat}
def Rch (z : Option (Int32 × ab_Mm)) (y : Nat) : Prop := ∃ I' J' x', z = some (1, (S0, I', J', x')) ∧ x' ≤ y
theorem Rch_mono {z : Option (Int32 × ab_Mm)} (h : Rch z y) (hy : y ≤ y') : Rch z y' := by
  obtain ⟨I', J', x', h1, h2⟩ := h
  exact ⟨I', J', x', h1, by omega⟩
theorem Rch_if {c : Prop} [Decidable c] {a b : Option (Int32 × ab_Mm)} (h1 : c → Rch a y) (h2 : ¬ c → Rch b y) : Rch (if c then a else b) y := by
  by_cases h : c
  · rw [if_pos h]; exact h1 h
  · rw [if_neg h]; exact h2 h
theorem Rch_no {c : Prop} [Decidable c] {a : Option (Int32 × ab_Mm)} (h : ¬ c) (h1 : Rch a y) : Rch (if c then none else a) y := by
  rw [if_neg h]; exact h1
theorem m_thrn : dd_X12_thrown 200 (S0, I, J, x) = some (I 200 0, (S0, I, J, x)) := by
  unfold dd_X12_thrown
  rw [m_F0, ob_s]
theorem Kq {α : Type} {tj : α → Int64} (dl : ab_Mm → Option (Int32 × ab_Mm)) (md : ab_Mm → Option (α × ab_Mm)) (k : ab_Mm → Option (Int32 × ab_Mm)) (h : Law dl md tj I J x) (hr : ∀ I2 J2 x1, Inv I2 J2 → x1 ≤ x + 1 → Rch (k (S0, I2, J2, x1)) y) : Rch ((dl (S0, I, J, x)).bind fun q => (ab_rc q.2 12 200).bind fun _ => (md q.2).bind fun q2 => (ab_rc q2.2 12 200).bind fun _ => (dd_X12_thrown 200 q2.2).bind fun q3 => if q3.1 = q.1 then if q.1 = 0 then (ab_ldJ q3.2 220 0).bind fun v => if lg_cmp v (tj q2.1) = 0 then k q3.2 else some (0, q3.2) else k q3.2 else some (0, q3.2)) y := by
  obtain ⟨r, I1, J1, x1, v, I2, J2, a1, a2, a3, a4, a5, a6⟩ := h
  rw [a1, ob_s, m_rc, ob_s, a2, ob_s, m_rc, ob_s, m_thrn, ob_s]
  dsimp only
  rw [if_pos a4]
  by_cases r0 : r = 0
  · rw [if_pos r0, l_218, ob_s, if_pos (by rw [lc_eq]; exact a5 r0)]
    exact hr I2 J2 x1 a3 a6
  · rw [if_neg r0]
    exact hr I2 J2 x1 a3 a6
theorem Kb (dl : ab_Mm → Option (Int32 × ab_Mm)) (md : ab_Mm → Option (Int32 × ab_Mm)) (k : ab_Mm → Option (Int32 × ab_Mm)) (h : Law dl md bj I J x) (hr : ∀ I2 J2 x1, Inv I2 J2 → x1 ≤ x + 1 → Rch (k (S0, I2, J2, x1)) y) : Rch ((dl (S0, I, J, x)).bind fun q => (ab_rc q.2 12 200).bind fun _ => (md q.2).bind fun q2 => (ab_rc q2.2 12 200).bind fun _ => (dd_X12_thrown 200 q2.2).bind fun q3 => if q3.1 = q.1 then if q.1 = 0 then (ab_ldJ q3.2 220 0).bind fun v => if q2.1 = 0 then (if lg_cmp v 0 = 0 then k q3.2 else some (0, q3.2)) else (if lg_cmp v 1 = 0 then k q3.2 else some (0, q3.2)) else k q3.2 else some (0, q3.2)) y := by
  obtain ⟨r, I1, J1, x1, v, I2, J2, a1, a2, a3, a4, a5, a6⟩ := h
  rw [a1, ob_s, m_rc, ob_s, a2, ob_s, m_rc, ob_s, m_thrn, ob_s]
  dsimp only
  rw [if_pos a4]
  by_cases r0 : r = 0
  · have e := a5 r0
    unfold bj at e
    rw [if_pos r0, l_218, ob_s]
    by_cases v0 : v = 0
    · rw [if_pos v0] at e ⊢
      rw [if_pos (by rw [lc_eq]; exact e)]
      exact hr I2 J2 x1 a3 a6
    · rw [if_neg v0] at e ⊢
      rw [if_pos (by rw [lc_eq]; exact e)]
      exact hr I2 J2 x1 a3 a6
  · rw [if_neg r0]
    exact hr I2 J2 x1 a3 a6
theorem Ka (cl md : ab_Mm → Option (Int32 × ab_Mm)) (k : ab_Mm → Option (Int32 × ab_Mm)) (h : Cal0 cl md I J x) (hr : ∀ I2 J2 x1, Inv I2 J2 → x1 ≤ x + 1 → Rch (k (S0, I2, J2, x1)) y) : Rch ((ab_rc (S0, I, J, x) 11 0).bind fun _ => (cl (S0, I, J, x)).bind fun q => (ab_rc q.2 12 200).bind fun _ => (md q.2).bind fun q2 => if q.1 = q2.1 then k q2.2 else some (0, q2.2)) y := by
  obtain ⟨v, I1, J1, I2, J2, a1, a2, a3⟩ := h
  rw [c_rc, ob_s, a1, ob_s, m_rc, ob_s, a2, ob_s]
  dsimp only
  rw [if_pos rfl]
  exact hr I2 J2 x a3 (by omega)
theorem Ku {α : Type} (cl md : ab_Mm → Option (α × ab_Mm)) (d : α → α → Int32) (k : ab_Mm → Option (Int32 × ab_Mm)) (h : Cal0 cl md I J x) (hr : ∀ I2 J2 x1, Inv I2 J2 → x1 ≤ x + 1 → Rch (k (S0, I2, J2, x1)) y) : Rch ((ab_rc (S0, I, J, x) 11 0).bind fun _ => (cl (S0, I, J, x)).bind fun q => (ab_rc q.2 12 200).bind fun _ => (md q.2).bind fun q2 => if d q.1 q2.1 = 0 then k q2.2 else if d q.1 q.1 = 0 then some (0, q2.2) else if d q2.1 q2.1 = 0 then some (0, q2.2) else k q2.2) y := by
  obtain ⟨v, I1, J1, I2, J2, a1, a2, a3⟩ := h
  rw [c_rc, ob_s, a1, ob_s, m_rc, ob_s, a2, ob_s]
  dsimp only
  by_cases z : d v v = 0
  · rw [if_pos z]
    exact hr I2 J2 x a3 (by omega)
  · rw [if_neg z, if_neg z, if_neg z]
    exact hr I2 J2 x a3 (by omega)
theorem stop_if {Ln k : Nat} (hL : Ln ≤ 3072) (hk : k ≤ 4000) : (Int32.ofNat Ln - 6 < nI k) = (Ln < k + 6) := by
  have e : (Int32.ofNat Ln - 6).toInt = (Ln : Int) - 6 := by
    have e1 : (Int32.ofNat Ln).toInt = (Ln : Int) := nI_toInt (by omega)
    have e2 : (6 : Int32).toInt = 6 := rfl
    rw [Int32.toInt_sub, e1, e2, Int.bmod_eq_of_le (by omega) (by omega)]
  rw [Int32.lt_iff_toInt_lt, e, nI_toInt (by omega)]
  apply propext
  omega
set_option maxHeartbeats 8000000 in
theorem law_loop {Ln : Nat} {xs : Nat → Int32} (hL : Ln ≤ 3072) : ∀ (R fu k : Nat) (I : Nat → Nat → Int32) (J : Nat → Nat → Int64) (x : Nat), Ln < k + 6 * R + 6 → k ≤ Ln + 6 → R < fu → Inv I J → Rch (bb_L_law_23 Ln xs fu 0 200 220 (nI k) (S0, I, J, x)) (x + R) := by
  intro R
  induction R with
  | zero =>
    intro fu k I J x h1 hk h2 hi
    obtain ⟨fu, rfl⟩ : ∃ z, fu = z + 1 := ⟨fu - 1, by omega⟩
    refine Rch_if (fun _ => ⟨I, J, x, rfl, by omega⟩) (fun c => ?_)
    rw [stop_if hL (by omega)] at c
    exact absurd h1 (by omega)
  | succ R ih =>
    intro fu k I J x h1 hk h2 hi
    obtain ⟨fu, rfl⟩ : ∃ z, fu = z + 1 := ⟨fu - 1, by omega⟩
    refine Rch_if (fun _ => ⟨I, J, x, rfl, by omega⟩) (fun c => ?_)
    rw [stop_if hL (by omega)] at c
    have hr : ∀ I2 J2 x1, Inv I2 J2 → x1 ≤ x + 1 → Rch (bb_L_law_23 Ln xs fu 0 200 220 (nI k + 6) (S0, I2, J2, x1)) (x + (R + 1)) := fun I2 J2 x1 h hx => by
      rw [show nI k + 6 = nI (k + 6) from li_add k 6]
      exact Rch_mono (ih fu (k + 6) I2 J2 x1 (by omega) (by omega) (by omega) h) (by omega)
    have b0 : ¬ (nI k < 0 ∨ Ln ≤ (nI k).toNatClampNeg) := op_in rfl (by omega) (by omega)
    have b1 : ¬ (nI k + (1 : Int32) < 0 ∨ Ln ≤ (nI k + (1 : Int32)).toNatClampNeg) := op_in (j := k + 1) (li_add k 1) (by omega) (by omega)
    have b2 : ¬ (nI k + (2 : Int32) < 0 ∨ Ln ≤ (nI k + (2 : Int32)).toNatClampNeg) := op_in (j := k + 2) (li_add k 2) (by omega) (by omega)
    have b3 : ¬ (nI k + (3 : Int32) < 0 ∨ Ln ≤ (nI k + (3 : Int32)).toNatClampNeg) := op_in (j := k + 3) (li_add k 3) (by omega) (by omega)
    have b4 : ¬ (nI k + (4 : Int32) < 0 ∨ Ln ≤ (nI k + (4 : Int32)).toNatClampNeg) := op_in (j := k + 4) (li_add k 4) (by omega) (by omega)
    have b5 : ¬ (nI k + (5 : Int32) < 0 ∨ Ln ≤ (nI k + (5 : Int32)).toNatClampNeg) := op_in (j := k + 5) (li_add k 5) (by omega) (by omega)
    refine Rch_no b0 ?_
    refine Rch_if (fun _ => ?_) (fun _ => ?_)
    · simp only [if_neg b1, if_neg b2, if_neg b3, if_neg b4, if_neg b5]
      exact Ka (dd_X11_append 0 (xs (nI k + (1 : Int32)).toNatClampNeg) (xs (nI k + (2 : Int32)).toNatClampNeg) (xs (nI k + (3 : Int32)).toNatClampNeg) (xs (nI k + (4 : Int32)).toNatClampNeg) (xs (nI k + (5 : Int32)).toNatClampNeg)) (dd_X12_append 200 (xs (nI k + (1 : Int32)).toNatClampNeg) (xs (nI k + (2 : Int32)).toNatClampNeg) (xs (nI k + (3 : Int32)).toNatClampNeg) (xs (nI k + (4 : Int32)).toNatClampNeg) (xs (nI k + (5 : Int32)).toNatClampNeg)) (fun m => bb_L_law_23 Ln xs fu 0 200 220 (nI k + 6) m) (a_append hi (xs (nI k + (1 : Int32)).toNatClampNeg) (xs (nI k + (2 : Int32)).toNatClampNeg) (xs (nI k + (3 : Int32)).toNatClampNeg) (xs (nI k + (4 : Int32)).toNatClampNeg) (xs (nI k + (5 : Int32)).toNatClampNeg)) hr
    refine Rch_if (fun _ => ?_) (fun _ => ?_)
    · simp only [if_neg b1]
      exact Kq (tj := Int32.toInt64) (fun m => dd_L_parse 0 (xs (nI k + (1 : Int32)).toNatClampNeg) 220 m) (dd_X12_parse 200 (xs (nI k + (1 : Int32)).toNatClampNeg)) (fun m => bb_L_law_23 Ln xs fu 0 200 220 (nI k + 6) m) (l_parse hi (xs (nI k + (1 : Int32)).toNatClampNeg)) hr
    refine Rch_if (fun _ => ?_) (fun _ => ?_)
    · obtain ⟨NH, NY, NE, NR, q⟩ := Inv_Q hi
      exact Ka (dd_X11_errorPosition 0 ) (dd_X12_errorPosition 200 ) (fun m => bb_L_law_23 Ln xs fu 0 200 220 (nI k + 6) m) (a_errorPosition hi) hr
    refine Rch_if (fun _ => ?_) (fun _ => ?_)
    · obtain ⟨NH, NY, NE, NR, q⟩ := Inv_Q hi
      exact Ka (dd_X11_hostCount 0 ) (dd_X12_hostCount 200 ) (fun m => bb_L_law_23 Ln xs fu 0 200 220 (nI k + 6) m) (Ask_Cal (a_hostCount q ) hi) hr
    refine Rch_if (fun _ => ?_) (fun _ => ?_)
    · obtain ⟨NH, NY, NE, NR, q⟩ := Inv_Q hi
      exact Ka (dd_X11_clock 0 ) (dd_X12_clock 200 ) (fun m => bb_L_law_23 Ln xs fu 0 200 220 (nI k + 6) m) (Ask_Cal (a_clock q ) hi) hr
    refine Rch_if (fun _ => ?_) (fun _ => ?_)
    · simp only [if_neg b1, if_neg b2]
      refine Rch_if (fun z => ?_) (fun z => ?_)
      · simp only [bb_L_law_409, if_neg b1, if_neg b2, if_pos z, bb_L_law_436]
        exact Kq (tj := Int32.toInt64) (fun m => dd_L_free 0 (xs (nI k + (1 : Int32)).toNatClampNeg) 0 220 m) (dd_X12_free 200 (xs (nI k + (1 : Int32)).toNatClampNeg) 0) (fun m => bb_L_law_23 Ln xs fu 0 200 220 (nI k + 6) m) (l_free hi (xs (nI k + (1 : Int32)).toNatClampNeg) 0) hr
      · simp only [bb_L_law_409, if_neg b1, if_neg b2, if_neg z, bb_L_law_436]
        exact Kq (tj := Int32.toInt64) (fun m => dd_L_free 0 (xs (nI k + (1 : Int32)).toNatClampNeg) 1 220 m) (dd_X12_free 200 (xs (nI k + (1 : Int32)).toNatClampNeg) 1) (fun m => bb_L_law_23 Ln xs fu 0 200 220 (nI k + 6) m) (l_free hi (xs (nI k + (1 : Int32)).toNatClampNeg) 1) hr
    refine Rch_if (fun _ => ?_) (fun _ => ?_)
    · simp only [if_neg b1]
      exact Kq (tj := Int32.toInt64) (fun m => dd_L_instancesOn 0 (xs (nI k + (1 : Int32)).toNatClampNeg) 220 m) (dd_X12_instancesOn 200 (xs (nI k + (1 : Int32)).toNatClampNeg)) (fun m => bb_L_law_23 Ln xs fu 0 200 220 (nI k + 6) m) (l_instancesOn hi (xs (nI k + (1 : Int32)).toNatClampNeg)) hr
    refine Rch_if (fun _ => ?_) (fun _ => ?_)
    · obtain ⟨NH, NY, NE, NR, q⟩ := Inv_Q hi
      exact Ku (dd_X11_utilisation 0) (dd_X12_utilisation 200) (fun u v => Op.cmpValue (FP.dcmp u v) .l) (fun m => bb_L_law_23 Ln xs fu 0 200 220 (nI k + 6) m) (Ask_Cal (a_utilisation q) hi) hr
    refine Rch_if (fun _ => ?_) (fun _ => ?_)
    · simp only [if_neg b1]
      exact Kq (tj := Int32.toInt64) (fun m => dd_L_spotPrice 0 (xs (nI k + (1 : Int32)).toNatClampNeg) 220 m) (dd_X12_spotPrice 200 (xs (nI k + (1 : Int32)).toNatClampNeg)) (fun m => bb_L_law_23 Ln xs fu 0 200 220 (nI k + 6) m) (l_spotPrice hi (xs (nI k + (1 : Int32)).toNatClampNeg)) hr
    refine Rch_if (fun _ => ?_) (fun _ => ?_)
    · simp only [if_neg b1]
      exact Kq (tj := Int32.toInt64) (fun m => dd_L_bestHost 0 (xs (nI k + (1 : Int32)).toNatClampNeg) 220 m) (dd_X12_bestHost 200 (xs (nI k + (1 : Int32)).toNatClampNeg)) (fun m => bb_L_law_23 Ln xs fu 0 200 220 (nI k + 6) m) (l_bestHost hi (xs (nI k + (1 : Int32)).toNatClampNeg)) hr
    refine Rch_if (fun _ => ?_) (fun _ => ?_)
    · simp only [if_neg b1]
      exact Kq (tj := Int32.toInt64) (fun m => dd_L_room 0 (xs (nI k + (1 : Int32)).toNatClampNeg) 220 m) (dd_X12_room 200 (xs (nI k + (1 : Int32)).toNatClampNeg)) (fun m => bb_L_law_23 Ln xs fu 0 200 220 (nI k + 6) m) (l_room hi (xs (nI k + (1 : Int32)).toNatClampNeg)) hr
    refine Rch_if (fun _ => ?_) (fun _ => ?_)
    · obtain ⟨NH, NY, NE, NR, q⟩ := Inv_Q hi
      exact Ka (dd_X11_running 0 ) (dd_X12_running 200 ) (fun m => bb_L_law_23 Ln xs fu 0 200 220 (nI k + 6) m) (Ask_Cal (a_running q ) hi) hr
    refine Rch_if (fun _ => ?_) (fun _ => ?_)
    · simp only [if_neg b1]
      exact Kq (tj := Int32.toInt64) (fun m => dd_L_typeOf 0 (xs (nI k + (1 : Int32)).toNatClampNeg) 220 m) (dd_X12_typeOf 200 (xs (nI k + (1 : Int32)).toNatClampNeg)) (fun m => bb_L_law_23 Ln xs fu 0 200 220 (nI k + 6) m) (l_typeOf hi (xs (nI k + (1 : Int32)).toNatClampNeg)) hr
    refine Rch_if (fun _ => ?_) (fun _ => ?_)
    · simp only [if_neg b1]
      exact Kq (tj := Int32.toInt64) (fun m => dd_L_tenantOf 0 (xs (nI k + (1 : Int32)).toNatClampNeg) 220 m) (dd_X12_tenantOf 200 (xs (nI k + (1 : Int32)).toNatClampNeg)) (fun m => bb_L_law_23 Ln xs fu 0 200 220 (nI k + 6) m) (l_tenantOf hi (xs (nI k + (1 : Int32)).toNatClampNeg)) hr
    refine Rch_if (fun _ => ?_) (fun _ => ?_)
    · simp only [if_neg b1]
      exact Kq (tj := Int32.toInt64) (fun m => dd_L_hostOf 0 (xs (nI k + (1 : Int32)).toNatClampNeg) 220 m) (dd_X12_hostOf 200 (xs (nI k + (1 : Int32)).toNatClampNeg)) (fun m => bb_L_law_23 Ln xs fu 0 200 220 (nI k + 6) m) (l_hostOf hi (xs (nI k + (1 : Int32)).toNatClampNeg)) hr
    refine Rch_if (fun _ => ?_) (fun _ => ?_)
    · simp only [if_neg b1]
      exact Kq (tj := Int32.toInt64) (fun m => dd_L_bidOf 0 (xs (nI k + (1 : Int32)).toNatClampNeg) 220 m) (dd_X12_bidOf 200 (xs (nI k + (1 : Int32)).toNatClampNeg)) (fun m => bb_L_law_23 Ln xs fu 0 200 220 (nI k + 6) m) (l_bidOf hi (xs (nI k + (1 : Int32)).toNatClampNeg)) hr
    refine Rch_if (fun _ => ?_) (fun _ => ?_)
    · simp only [if_neg b1]
      exact Kq (tj := Int32.toInt64) (fun m => dd_L_noticeOf 0 (xs (nI k + (1 : Int32)).toNatClampNeg) 220 m) (dd_X12_noticeOf 200 (xs (nI k + (1 : Int32)).toNatClampNeg)) (fun m => bb_L_law_23 Ln xs fu 0 200 220 (nI k + 6) m) (l_noticeOf hi (xs (nI k + (1 : Int32)).toNatClampNeg)) hr
    refine Rch_if (fun _ => ?_) (fun _ => ?_)
    · obtain ⟨NH, NY, NE, NR, q⟩ := Inv_Q hi
      exact Ka (dd_X11_waiting 0 ) (dd_X12_waiting 200 ) (fun m => bb_L_law_23 Ln xs fu 0 200 220 (nI k + 6) m) (Ask_Cal (a_waiting q ) hi) hr
    refine Rch_if (fun _ => ?_) (fun _ => ?_)
    · obtain ⟨NH, NY, NE, NR, q⟩ := Inv_Q hi
      simp only [if_neg b1]
      exact Ka (dd_X11_waitingBid 0 (xs (nI k + (1 : Int32)).toNatClampNeg)) (dd_X12_waitingBid 200 (xs (nI k + (1 : Int32)).toNatClampNeg)) (fun m => bb_L_law_23 Ln xs fu 0 200 220 (nI k + 6) m) (Ask_Cal (a_waitingBid q (xs (nI k + (1 : Int32)).toNatClampNeg)) hi) hr
    refine Rch_if (fun _ => ?_) (fun _ => ?_)
    · simp only [if_neg b1]
      exact Kq (tj := id) (fun m => dd_L_spent 0 (xs (nI k + (1 : Int32)).toNatClampNeg) 220 m) (dd_X12_spent 200 (xs (nI k + (1 : Int32)).toNatClampNeg)) (fun m => bb_L_law_23 Ln xs fu 0 200 220 (nI k + 6) m) (l_spent hi (xs (nI k + (1 : Int32)).toNatClampNeg)) hr
    refine Rch_if (fun _ => ?_) (fun _ => ?_)
    · simp only [if_neg b1]
      exact Kq (tj := Int32.toInt64) (fun m => dd_L_hourlyBill 0 (xs (nI k + (1 : Int32)).toNatClampNeg) 220 m) (dd_X12_hourlyBill 200 (xs (nI k + (1 : Int32)).toNatClampNeg)) (fun m => bb_L_law_23 Ln xs fu 0 200 220 (nI k + 6) m) (l_hourlyBill hi (xs (nI k + (1 : Int32)).toNatClampNeg)) hr
    refine Rch_if (fun _ => ?_) (fun _ => ?_)
    · simp only [if_neg b1, if_neg b2]
      exact Kq (tj := Int32.toInt64) (fun m => dd_L_covered 0 (xs (nI k + (1 : Int32)).toNatClampNeg) (xs (nI k + (2 : Int32)).toNatClampNeg) 220 m) (dd_X12_covered 200 (xs (nI k + (1 : Int32)).toNatClampNeg) (xs (nI k + (2 : Int32)).toNatClampNeg)) (fun m => bb_L_law_23 Ln xs fu 0 200 220 (nI k + 6) m) (l_covered hi (xs (nI k + (1 : Int32)).toNatClampNeg) (xs (nI k + (2 : Int32)).toNatClampNeg)) hr
    refine Rch_if (fun _ => ?_) (fun _ => ?_)
    · simp only [if_neg b1]
      exact Kb (fun m => dd_L_isOverBudget 0 (xs (nI k + (1 : Int32)).toNatClampNeg) 220 m) (dd_X12_isOverBudget 200 (xs (nI k + (1 : Int32)).toNatClampNeg)) (fun m => bb_L_law_23 Ln xs fu 0 200 220 (nI k + 6) m) (l_isOverBudget hi (xs (nI k + (1 : Int32)).toNatClampNeg)) hr
    refine Rch_if (fun _ => ?_) (fun _ => ?_)
    · simp only [if_neg b1]
      exact Kb (fun m => dd_L_pays 0 (xs (nI k + (1 : Int32)).toNatClampNeg) 220 m) (dd_X12_pays 200 (xs (nI k + (1 : Int32)).toNatClampNeg)) (fun m => bb_L_law_23 Ln xs fu 0 200 220 (nI k + 6) m) (l_pays hi (xs (nI k + (1 : Int32)).toNatClampNeg)) hr
    refine Rch_if (fun _ => ?_) (fun _ => ?_)
    · obtain ⟨NH, NY, NE, NR, q⟩ := Inv_Q hi
      exact Ka (dd_X11_fewestHosts 0 ) (dd_X12_fewestHosts 200 ) (fun m => bb_L_law_23 Ln xs fu 0 200 220 (nI k + 6) m) (a_fewest hi) hr
    refine Rch_if (fun _ => ?_) (fun _ => ?_)
    · simp only [if_neg b1, if_neg b2]
      exact Kq (tj := Int32.toInt64) (fun m => dd_L_cheapestEviction 0 (xs (nI k + (1 : Int32)).toNatClampNeg) (xs (nI k + (2 : Int32)).toNatClampNeg) 220 m) (dd_X12_cheapestEviction 200 (xs (nI k + (1 : Int32)).toNatClampNeg) (xs (nI k + (2 : Int32)).toNatClampNeg)) (fun m => bb_L_law_23 Ln xs fu 0 200 220 (nI k + 6) m) (l_cheapestEviction hi (xs (nI k + (1 : Int32)).toNatClampNeg) (xs (nI k + (2 : Int32)).toNatClampNeg)) hr
    refine Rch_if (fun _ => ?_) (fun _ => ?_)
    · simp only [if_neg b1]
      exact Kq (tj := Int32.toInt64) (fun m => dd_L_migrationCost 0 (xs (nI k + (1 : Int32)).toNatClampNeg) 220 m) (dd_X12_migrationCost 200 (xs (nI k + (1 : Int32)).toNatClampNeg)) (fun m => bb_L_law_23 Ln xs fu 0 200 220 (nI k + 6) m) (l_migrationCost hi (xs (nI k + (1 : Int32)).toNatClampNeg)) hr
    refine Rch_if (fun _ => ?_) (fun _ => ?_)
    · simp only [if_neg b1, if_neg b2]
      exact Kq (tj := Int32.toInt64) (fun m => dd_L_drainTo 0 (xs (nI k + (1 : Int32)).toNatClampNeg) (xs (nI k + (2 : Int32)).toNatClampNeg) 220 m) (dd_X12_drainTo 200 (xs (nI k + (1 : Int32)).toNatClampNeg) (xs (nI k + (2 : Int32)).toNatClampNeg)) (fun m => bb_L_law_23 Ln xs fu 0 200 220 (nI k + 6) m) (l_drainTo hi (xs (nI k + (1 : Int32)).toNatClampNeg) (xs (nI k + (2 : Int32)).toNatClampNeg)) hr
    refine Rch_if (fun _ => ?_) (fun _ => ?_)
    · simp only [if_neg b1, if_neg b2]
      exact Kq (tj := Int32.toInt64) (fun m => dd_L_priceAfter 0 (xs (nI k + (1 : Int32)).toNatClampNeg) (xs (nI k + (2 : Int32)).toNatClampNeg) 220 m) (dd_X12_priceAfter 200 (xs (nI k + (1 : Int32)).toNatClampNeg) (xs (nI k + (2 : Int32)).toNatClampNeg)) (fun m => bb_L_law_23 Ln xs fu 0 200 220 (nI k + 6) m) (l_priceAfter hi (xs (nI k + (1 : Int32)).toNatClampNeg) (xs (nI k + (2 : Int32)).toNatClampNeg)) hr
    refine Rch_if (fun _ => ?_) (fun _ => ?_)
    · simp only [if_neg b1]
      exact Kq (tj := Int32.toInt64) (fun m => dd_L_evictedAfter 0 (xs (nI k + (1 : Int32)).toNatClampNeg) 220 m) (dd_X12_evictedAfter 200 (xs (nI k + (1 : Int32)).toNatClampNeg)) (fun m => bb_L_law_23 Ln xs fu 0 200 220 (nI k + 6) m) (l_evictedAfter hi (xs (nI k + (1 : Int32)).toNatClampNeg)) hr
    refine Rch_if (fun _ => ?_) (fun _ => ?_)
    · simp only [if_neg b1]
      exact Kq (tj := Int32.toInt64) (fun m => dd_L_pass 0 (xs (nI k + (1 : Int32)).toNatClampNeg) 220 m) (dd_X12_pass 200 (xs (nI k + (1 : Int32)).toNatClampNeg)) (fun m => bb_L_law_23 Ln xs fu 0 200 220 (nI k + 6) m) (l_pass hi (xs (nI k + (1 : Int32)).toNatClampNeg)) hr
    refine Rch_if (fun _ => ?_) (fun _ => ?_)
    · simp only [if_neg b1, if_neg b2]
      exact Kq (tj := Int32.toInt64) (fun m => dd_L_launch 0 (xs (nI k + (1 : Int32)).toNatClampNeg) (xs (nI k + (2 : Int32)).toNatClampNeg) 220 m) (dd_X12_launch 200 (xs (nI k + (1 : Int32)).toNatClampNeg) (xs (nI k + (2 : Int32)).toNatClampNeg)) (fun m => bb_L_law_23 Ln xs fu 0 200 220 (nI k + 6) m) (l_launch hi (xs (nI k + (1 : Int32)).toNatClampNeg) (xs (nI k + (2 : Int32)).toNatClampNeg)) hr
    refine Rch_if (fun _ => ?_) (fun _ => ?_)
    · simp only [if_neg b1, if_neg b2, if_neg b3]
      exact Kq (tj := Int32.toInt64) (fun m => dd_L_bid 0 (xs (nI k + (1 : Int32)).toNatClampNeg) (xs (nI k + (2 : Int32)).toNatClampNeg) (xs (nI k + (3 : Int32)).toNatClampNeg) 220 m) (dd_X12_bid 200 (xs (nI k + (1 : Int32)).toNatClampNeg) (xs (nI k + (2 : Int32)).toNatClampNeg) (xs (nI k + (3 : Int32)).toNatClampNeg)) (fun m => bb_L_law_23 Ln xs fu 0 200 220 (nI k + 6) m) (l_bid hi (xs (nI k + (1 : Int32)).toNatClampNeg) (xs (nI k + (2 : Int32)).toNatClampNeg) (xs (nI k + (3 : Int32)).toNatClampNeg)) hr
    refine Rch_if (fun _ => ?_) (fun _ => ?_)
    · simp only [if_neg b1]
      exact Kq (tj := Int32.toInt64) (fun m => dd_L_withdraw 0 (xs (nI k + (1 : Int32)).toNatClampNeg) 220 m) (dd_X12_withdraw 200 (xs (nI k + (1 : Int32)).toNatClampNeg)) (fun m => bb_L_law_23 Ln xs fu 0 200 220 (nI k + 6) m) (l_withdraw hi (xs (nI k + (1 : Int32)).toNatClampNeg)) hr
    refine Rch_if (fun _ => ?_) (fun _ => ?_)
    · simp only [if_neg b1]
      exact Kq (tj := Int32.toInt64) (fun m => dd_L_stop 0 (xs (nI k + (1 : Int32)).toNatClampNeg) 220 m) (dd_X12_stop 200 (xs (nI k + (1 : Int32)).toNatClampNeg)) (fun m => bb_L_law_23 Ln xs fu 0 200 220 (nI k + 6) m) (l_stop hi (xs (nI k + (1 : Int32)).toNatClampNeg)) hr
    refine Rch_if (fun _ => ?_) (fun _ => ?_)
    · simp only [if_neg b1]
      exact Kq (tj := Int32.toInt64) (fun m => dd_L_evict 0 (xs (nI k + (1 : Int32)).toNatClampNeg) 220 m) (dd_X12_evict 200 (xs (nI k + (1 : Int32)).toNatClampNeg)) (fun m => bb_L_law_23 Ln xs fu 0 200 220 (nI k + 6) m) (l_evict hi (xs (nI k + (1 : Int32)).toNatClampNeg)) hr
    refine Rch_if (fun _ => ?_) (fun _ => ?_)
    · simp only [if_neg b1, if_neg b2]
      exact Kq (tj := Int32.toInt64) (fun m => dd_L_migrate 0 (xs (nI k + (1 : Int32)).toNatClampNeg) (xs (nI k + (2 : Int32)).toNatClampNeg) 220 m) (dd_X12_migrate 200 (xs (nI k + (1 : Int32)).toNatClampNeg) (xs (nI k + (2 : Int32)).toNatClampNeg)) (fun m => bb_L_law_23 Ln xs fu 0 200 220 (nI k + 6) m) (l_migrate hi (xs (nI k + (1 : Int32)).toNatClampNeg) (xs (nI k + (2 : Int32)).toNatClampNeg)) hr
    refine Rch_if (fun _ => ?_) (fun _ => ?_)
    · simp only [if_neg b1]
      exact Kq (tj := Int32.toInt64) (fun m => dd_L_drain 0 (xs (nI k + (1 : Int32)).toNatClampNeg) 220 m) (dd_X12_drain 200 (xs (nI k + (1 : Int32)).toNatClampNeg)) (fun m => bb_L_law_23 Ln xs fu 0 200 220 (nI k + 6) m) (l_drain hi (xs (nI k + (1 : Int32)).toNatClampNeg)) hr
    refine Rch_if (fun _ => ?_) (fun _ => ?_)
    · obtain ⟨NH, NY, NE, NR, q⟩ := Inv_Q hi
      exact Ka (dd_X11_undo 0 ) (dd_X12_undo 200 ) (fun m => bb_L_law_23 Ln xs fu 0 200 220 (nI k + 6) m) (a_undo hi) hr
    refine Rch_if (fun _ => ?_) (fun _ => ?_)
    · simp only [if_neg b1]
      exact Kb (fun m => dd_L_saveSnapshot 0 (xs (nI k + (1 : Int32)).toNatClampNeg) 220 m) (dd_X12_saveSnapshot 200 (xs (nI k + (1 : Int32)).toNatClampNeg)) (fun m => bb_L_law_23 Ln xs fu 0 200 220 (nI k + 6) m) (l_saveSnapshot hi (xs (nI k + (1 : Int32)).toNatClampNeg)) hr
    refine Rch_if (fun _ => ?_) (fun _ => ?_)
    · simp only [if_neg b1]
      exact Kq (tj := Int32.toInt64) (fun m => dd_L_restoreSnapshot 0 (xs (nI k + (1 : Int32)).toNatClampNeg) 220 m) (dd_X12_restoreSnapshot 200 (xs (nI k + (1 : Int32)).toNatClampNeg)) (fun m => bb_L_law_23 Ln xs fu 0 200 220 (nI k + 6) m) (l_restoreSnapshot hi (xs (nI k + (1 : Int32)).toNatClampNeg)) hr
    exact hr I J x hi (by omega)
end LL
