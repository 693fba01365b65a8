/-! ===== the model: sets, requests, bills ===== -/
def isr (v : Int32) (lo hi : Nat) : Prop := ∃ n, v = nI n ∧ lo ≤ n ∧ n ≤ hi
def mr (I : Nat → Nat → Int32) (r w : Nat) : Int32 := I 206 (6 * r + w)
def ry (I : Nat → Nat → Int32) (r : Nat) : Nat := (mr I r 1).toNatClampNeg
def re (I : Nat → Nat → Int32) (r : Nat) : Nat := (mr I r 0).toNatClampNeg
/-- what the cloud's numbers may be -/
def mrg (I : Nat → Nat → Int32) (NH NY NE NR : Nat) : Prop :=
  (∀ h, h < NH → isr (mh I h 0) 1 64 ∧ isr (mh I h 1) 1 256) ∧ (∀ y, y < NY → isr (mt I y 0) 1 64 ∧ isr (mt I y 1) 1 256 ∧ isr (mt I y 2) 1 9999) ∧
  (∀ e, e < NE → isr (I 205 e) 0 9999) ∧
  (∀ r, r < NR → (mr I r 0 = nI (re I r) ∧ re I r < NE) ∧ (mr I r 1 = nI (ry I r) ∧ ry I r < NY) ∧ isr (mr I r 2) 1 9 ∧ isr (mr I r 3) 0 9998 ∧ isr (mr I r 4) 1 9999 ∧ isr (mr I r 5) 0 100) ∧
  isr (I 202 4) 1 100 ∧ isr (I 202 5) 0 48 ∧ isr (I 202 6) 0 400
section MF
variable {I : Nat → Nat → Int32} {J : Nat → Nat → Int64} {x : Nat} {NH NY NE NR : Nat}
/-- a set of the instances that p takes -/
def sets (p : Nat → Bool) : Int32 := itr (fun j a => a ||| (if p j = true then (1 : Int32) <<< (nI j &&& 31) else 0)) 0 12 0
theorem sets_congr {p q : Nat → Bool} (h : ∀ i, i < 12 → p i = q i) : sets p = sets q := by
  unfold sets
  exact itr_congr 12 0 0 (fun i b _ h2 => by rw [h i (by omega)])
theorem m_onHost {h : Nat} (hw : wfs NH NY NE (J 201)) (hn : NH ≤ 8) (hh : h < 8) : dd_X12_onHost 200 (nI h) (S0, I, J, x) = some (sets (fun i => rn (J 201) i && decide (ho (J 201) i = h)), (S0, I, J, x)) := by
  unfold dd_X12_onHost sets
  refine lp_up0 (fun n k a => bb_X12_onHost_4 n 200 (nI h) a k (S0, I, J, x)) 12 (by decide) _ (fun a => some (a, (S0, I, J, x))) (fun n j a hj => ?_) (fun n a => ?_) 0
  · rw [bb_X12_onHost_4, if_neg (li_12 hj)]
    simp only [ob_s, m_rc, m_R1, m_R2, m_R3, m_R4, m_R5, m_R6, m_R7, m_R8, m_R9, m_F0, m_isOn hw hn hj hh, bb_X12_onHost_27]
    by_cases hc : rn (J 201) j = true ∧ ho (J 201) j = h
    · simp [hc]
    · rw [if_neg hc, if_pos rfl, if_neg (by simpa using hc)]
  · rw [bb_X12_onHost_4, if_pos li_12e]
theorem m_ones : dd_X12_runningOnes 200 (S0, I, J, x) = some (sets (rn (J 201)), (S0, I, J, x)) := by
  unfold dd_X12_runningOnes sets
  refine lp_up0 (fun n k a => bb_X12_runningOnes_4 n 200 a k (S0, I, J, x)) 12 (by decide) _ (fun a => some (a, (S0, I, J, x))) (fun n j a hj => ?_) (fun n a => ?_) 0
  · rw [bb_X12_runningOnes_4, if_neg (li_12 hj)]
    simp only [ob_s, m_rc, m_R1, m_R2, m_R3, m_R4, m_R5, m_R6, m_R7, m_R8, m_R9, m_F0, m_runs hj, bb_X12_runningOnes_26, bo_if]
    cases rn (J 201) j <;> simp
  · rw [bb_X12_runningOnes_4, if_pos li_12e]
/-! requests -/
def vq (f : Nat → Int64) (r w : Nat) : Int64 := f (86 + 3 * r + w)
def bq (f : Nat → Int64) (r : Nat) : Int32 := (vq f r 2).toInt32
/-- o stands before r -/
def bfr (b : Nat → Int32) (r o : Nat) : Bool := decide (b r < b o ∨ (b o = b r ∧ o < r))
def rk (b : Nat → Int32) (n r : Nat) : Nat := cn (bfr b r) n
def nq (f : Nat → Int64) : Nat := nv (f 1)
theorem x86 {r : Nat} : (86 : Int32) + 3 * nI r + 2 = nI (86 + 3 * r + 2) := by rw [li_n 86, li_n 3, li_n 2, li_mul, li_add, li_add]
theorem m_bidAt {r : Nat} (h : r < 10) : dd_X12_bidAt 200 (nI r) (S0, I, J, x) = some (bq (J 201) r, (S0, I, J, x)) := by
  unfold dd_X12_bidAt
  rw [m_R1, ob_s, x86, m_now (by omega)]
  rfl
/-- the request at a place -/
def rqA (f : Nat → Int64) (p : Int32) : Option Nat := fd (fun r => decide (nI (rk (bq f) (nq f) r) = p)) 0 (nq f)
theorem m_nq (hq : isn (J 201 1) 11) {j : Nat} (hj : j ≤ 10) : (0 ≤ lg_cmp (nI j).toInt64 (J 201 1)) = (nq (J 201) ≤ j) := by
  have h2 := hq.2
  rw [hq.1, lc_ge, j_le, li_le (by omega) (by omega)]
  rfl
theorem m_reqAt (hq : isn (J 201 1) 11) (p : Int32) : dd_X12_requestAt 200 p (S0, I, J, x) = some (match rqA (J 201) p with | some r => nI r | none => -1, (S0, I, J, x)) := by
  have h10 : nq (J 201) < 11 := hq.2
  unfold dd_X12_requestAt rqA
  refine (lp_fd (fun n k => bb_X12_requestAt_2 n 200 p k (S0, I, J, x)) (nq (J 201)) (by omega) (fun r => decide (nI (rk (bq (J 201)) (nq (J 201)) r) = p)) (fun r => some (nI r, (S0, I, J, x))) (some (-1, (S0, I, J, x))) (fun n r hr => ?_) (fun n => ?_)).trans ?_
  · rw [bb_X12_requestAt_2]
    simp only [ob_s, m_rc, m_R1, m_R2, m_R3, m_R4, m_R5, m_R6, m_R7, m_R8, m_R9, m_F0, m_n1, m_nq hq (show r ≤ 10 by omega)]
    rw [if_neg (by omega)]
    refine (lp_sum (fun k j a => bb_X12_requestAt_19 (bb_X12_requestAt_2 n) k 200 p (nI r) a j (S0, I, J, x)) (nq (J 201)) (by omega) (fun o => if bfr (bq (J 201)) r o then 1 else 0) (fun a => if a = p then some (nI r, (S0, I, J, x)) else bb_X12_requestAt_2 n 200 p (nI r + 1) (S0, I, J, x)) (fun k o a ho => ?_) (fun k a => ?_)).trans ?_
    · rw [bb_X12_requestAt_19]
      simp only [ob_s, m_rc, m_R1, m_R2, m_R3, m_R4, m_R5, m_R6, m_R7, m_R8, m_R9, m_F0, m_n1, m_nq hq (show o ≤ 10 by omega)]
      rw [if_neg (by omega)]
      simp only [ob_s, m_rc, m_R1, m_R2, m_R3, m_R4, m_R5, m_R6, m_R7, m_R8, m_R9, m_F0, m_bidAt (show o < 10 by omega), m_bidAt (show r < 10 by omega), bb_X12_requestAt_67, bb_X12_requestAt_71, bb_X12_requestAt_72, li_le (show r < 2 ^ 31 by omega) (show o < 2 ^ 31 by omega)]
      by_cases h1 : bq (J 201) r < bq (J 201) o
      · have hb : bfr (bq (J 201)) r o = true := by simp [bfr, h1]
        rw [if_pos h1, hb]; rfl
      · rw [if_neg h1]
        by_cases h2 : bq (J 201) o = bq (J 201) r
        · rw [if_pos h2]
          by_cases h3 : r ≤ o
          · have hb : bfr (bq (J 201)) r o = false := by
              unfold bfr
              exact decide_eq_false (fun q => q.elim h1 (fun q2 => absurd q2.2 (by omega)))
            rw [if_pos h3, hb]; rfl
          · have hb : bfr (bq (J 201)) r o = true := by
              unfold bfr
              exact decide_eq_true (Or.inr ⟨h2, by omega⟩)
            rw [if_neg h3, hb]; rfl
        · have hb : bfr (bq (J 201)) r o = false := by
            unfold bfr
            exact decide_eq_false (fun q => q.elim h1 (fun q2 => h2 q2.1))
          rw [if_neg h2, hb]; rfl
    · rw [bb_X12_requestAt_19]
      simp only [ob_s, m_rc, m_R1, m_R2, m_R3, m_R4, m_R5, m_R6, m_R7, m_R8, m_R9, m_F0, m_n1, m_nq hq (show nq (J 201) ≤ 10 by omega)]
      rw [if_pos (Nat.le_refl _)]
    · rw [cn_sm]
      show (if nI (rk (bq (J 201)) (nq (J 201)) r) = p then _ else _) = _
      by_cases h5 : nI (rk (bq (J 201)) (nq (J 201)) r) = p
      · rw [if_pos h5]
        exact (if_pos (decide_eq_true h5)).symm
      · rw [if_neg h5]
        exact (if_neg (by rw [decide_eq_false h5]; decide)).symm
  · rw [bb_X12_requestAt_2]
    simp only [ob_s, m_rc, m_R1, m_R2, m_R3, m_R4, m_R5, m_R6, m_R7, m_R8, m_R9, m_F0, m_n1, m_nq hq (show nq (J 201) ≤ 10 by omega)]
    rw [if_pos (Nat.le_refl _)]
  · split <;> rename_i h <;> rw [h]
/-! bills -/
def mbd (f : Nat → Int64) (i : Nat) : Int32 := (vi f i 3).toInt32
def mreg (f : Nat → Int64) (e y : Nat) : Int32 := sm (fun i => if rn f i = true ∧ en f i = e ∧ ty f i = y ∧ mbd f i = -1 then 1 else 0) 12
theorem m_en {i e : Nat} (hw : wfs NH NY NE (J 201)) (hn : NE ≤ 6) (hi : i < 12) (hr : rn (J 201) i = true) (he : e < 6) : ((vi (J 201) i 0).toInt32 = nI e) = (en (J 201) i = e) := by
  have h2 := (hw i hi hr).1
  rw [isn_32 h2, li_eq (by have := h2.2; omega) (by omega)]
  rfl
theorem m_tye {i y : Nat} (hw : wfs NH NY NE (J 201)) (hn : NY ≤ 6) (hi : i < 12) (hr : rn (J 201) i = true) (hy : y < 6) : ((vi (J 201) i 1).toInt32 = nI y) = (ty (J 201) i = y) := by
  have h2 := (hw i hi hr).2.1
  rw [isn_32 h2, li_eq (by have := h2.2; omega) (by omega)]
  rfl
theorem m_reg {e y : Nat} (hw : wfs NH NY NE (J 201)) (hy : NY ≤ 6) (hn : NE ≤ 6) (he : e < 6) (h6 : y < 6) : dd_X12_regulars 200 (nI e) (nI y) (S0, I, J, x) = some (mreg (J 201) e y, (S0, I, J, x)) := by
  unfold dd_X12_regulars mreg
  refine lp_sum (fun n k a => bb_X12_regulars_5 n 200 (nI e) (nI y) a k (S0, I, J, x)) 12 (by decide) _ (fun a => some (a, (S0, I, J, x))) (fun n j a hj => ?_) (fun n a => ?_)
  · rw [bb_X12_regulars_5, if_neg (li_12 hj)]
    simp only [ob_s, m_rc, m_R1, m_R2, m_R3, m_R4, m_R5, m_R6, m_R7, m_R8, m_R9, m_F0, m_runs hj, bo_if, bb_X12_regulars_59, bb_X12_regulars_60]
    cases hr : rn (J 201) j with
    | false => simp
    | true =>
      simp only [ob_s, m_rc, m_R1, m_R2, m_R3, m_R4, m_R5, m_R6, m_R7, m_R8, m_R9, m_F0, m_its0 hj, m_its1 hj, m_its3 hj, m_en hw hn hj hr he, m_tye hw hy hj hr h6]
      by_cases h1 : en (J 201) j = e
      · by_cases h2 : ty (J 201) j = y
        · by_cases h3 : mbd (J 201) j = -1
          · have h3' : (vi (J 201) j 3).toInt32 = -1 := h3
            simp [h1, h2, h3, h3']
          · have h3' : ¬ (vi (J 201) j 3).toInt32 = -1 := h3
            simp [h1, h2, h3, h3']
        · simp [h1, h2]
      · simp [h1]
  · rw [bb_X12_regulars_5, if_pos li_12e]
def clk (f : Nat → Int64) : Int32 := (f 0).toInt32
def mact (I : Nat → Nat → Int32) (f : Nat → Int64) (r : Nat) : Bool := !(decide (clk f < mr I r 3)) && !(decide (mr I r 4 ≤ clk f))
theorem m_r0 {r : Nat} (h : r < 8) : ab_ld (S0, I, J, x) 1 206 (6 * nI r) = some (mr I r 0) := by rw [x6, m_resv (by omega)]; rfl
theorem m_r1 {r : Nat} (h : r < 8) : ab_ld (S0, I, J, x) 1 206 (6 * nI r + 1) = some (mr I r 1) := by rw [x6, x6a, m_resv (by omega)]; rfl
theorem m_r2 {r : Nat} (h : r < 8) : ab_ld (S0, I, J, x) 1 206 (6 * nI r + 2) = some (mr I r 2) := by rw [x6, x6b, m_resv (by omega)]; rfl
theorem m_r3 {r : Nat} (h : r < 8) : ab_ld (S0, I, J, x) 1 206 (6 * nI r + 3) = some (mr I r 3) := by rw [x6, x6c, m_resv (by omega)]; rfl
theorem m_r4 {r : Nat} (h : r < 8) : ab_ld (S0, I, J, x) 1 206 (6 * nI r + 4) = some (mr I r 4) := by rw [x6, x6d, m_resv (by omega)]; rfl
theorem m_r5 {r : Nat} (h : r < 8) : ab_ld (S0, I, J, x) 1 206 (6 * nI r + 5) = some (mr I r 5) := by rw [x6, x6e, m_resv (by omega)]; rfl
theorem m_t0 {y : Nat} (h : y < 6) : ab_ld (S0, I, J, x) 1 204 (3 * nI y) = some (mt I y 0) := by rw [x3, m_types (by omega)]; rfl
theorem m_t1 {y : Nat} (h : y < 6) : ab_ld (S0, I, J, x) 1 204 (3 * nI y + 1) = some (mt I y 1) := by rw [x3, x3a, m_types (by omega)]; rfl
theorem m_t2 {y : Nat} (h : y < 6) : ab_ld (S0, I, J, x) 1 204 (3 * nI y + 2) = some (mt I y 2) := by rw [x3, x3b, m_types (by omega)]; rfl
theorem m_act {r : Nat} (hg : mrg I NH NY NE NR) (hk : isI (J 201 0)) (hr : r < NR) (h8 : r < 8) : dd_X12_isActive 200 (nI r) (S0, I, J, x) = some (if mact I (J 201) r then 1 else 0, (S0, I, J, x)) := by
  unfold dd_X12_isActive
  obtain ⟨u, hu, hu1, hu2⟩ := (hg.2.2.2.1 r hr).2.2.2.2.1
  have e : wi (J 201 0) (mr I r 3).toInt64 ((mr I r 4 - 1).toInt64) = mact I (J 201) r := by
    unfold wi mact
    have e1 : (nI u - 1).toInt = (u : Int) - 1 := pk_sub_toInt (b := 1) (by omega) (by omega)
    have q1 : (J 201 0 < (mr I r 3).toInt64) = (clk (J 201) < mr I r 3) := by
      rw [hk, j_lt]; rfl
    have q2 : ((mr I r 4 - 1).toInt64 < J 201 0) = (mr I r 4 ≤ clk (J 201)) := by
      rw [hk, j_lt, hu, Int32.lt_iff_toInt_lt, e1, Int32.le_iff_toInt_le, nI_toInt (by omega)]
      exact propext ⟨fun h => by unfold clk; omega, fun h => by unfold clk at h; omega⟩
    simp only [q1, q2]
  simp only [ob_s, m_rc, m_R1, m_R2, m_R3, m_R4, m_R5, m_R6, m_R7, m_R8, m_R9, m_F0, m_n0, m_r3 h8, m_r4 h8, m_within, e, b1_ok]
def mpay (I : Nat → Nat → Int32) (r : Nat) : Int32 := mr I r 2 * ((mt I (ry I r) 2 * (100 - mr I r 5)) / 100)
theorem m_pay {r : Nat} (hg : mrg I NH NY NE NR) (hy : NY ≤ 6) (hr : r < NR) (h8 : r < 8) : dd_X12_payment 200 (nI r) (S0, I, J, x) = some (mpay I r, (S0, I, J, x)) := by
  unfold dd_X12_payment mpay
  have h2 := (hg.2.2.2.1 r hr).2.1
  have h3 : ry I r < 6 := by omega
  have e := h2.1
  simp only [ob_s, m_rc, m_R1, m_R2, m_R3, m_R4, m_R5, m_R6, m_R7, m_R8, m_R9, m_F0, m_r1 h8, m_r2 h8, m_r5 h8, if_neg n100]
  rw [e, m_t2 h3]
  rfl
def mrsv (I : Nat → Nat → Int32) (f : Nat → Int64) (n e y : Nat) : Int32 := sm (fun r => if mr I r 0 = nI e ∧ mr I r 1 = nI y ∧ mact I f r = true then mr I r 2 else 0) n
def mcov (I : Nat → Nat → Int32) (f : Nat → Int64) (n e y : Nat) : Int32 := if mreg f e y ≤ mrsv I f n e y then mreg f e y else mrsv I f n e y
theorem m_cov {e y : Nat} (hc : mc I NH NY NE NR) (hg : mrg I NH NY NE NR) (hk : isI (J 201 0)) (hw : wfs NH NY NE (J 201)) (he : e < 6) (h6 : y < 6) : dd_X12_coveredBy 200 (nI e) (nI y) (S0, I, J, x) = some (mcov I (J 201) NR e y, (S0, I, J, x)) := by
  have h8 := hc.2.2.2.2
  unfold dd_X12_coveredBy
  refine (lp_sum (fun n k a => bb_X12_coveredBy_5 n 200 (nI e) (nI y) a k (S0, I, J, x)) NR (by omega) (fun r => if mr I r 0 = nI e ∧ mr I r 1 = nI y ∧ mact I (J 201) r = true then mr I r 2 else 0) (fun a => some (if mreg (J 201) e y ≤ a then mreg (J 201) e y else a, (S0, I, J, x))) (fun n r a hr => ?_) (fun n a => ?_))
  · have hr8 : r < 8 := by omega
    rw [bb_X12_coveredBy_5]
    simp only [ob_s, m_rc, m_R1, m_R2, m_R3, m_R4, m_R5, m_R6, m_R7, m_R8, m_R9, m_F0, m_to3, hc.1.2.2.2]
    rw [if_neg (by rw [li_le (by omega) (by omega)]; omega)]
    simp only [ob_s, m_rc, m_R1, m_R2, m_R3, m_R4, m_R5, m_R6, m_R7, m_R8, m_R9, m_F0, m_r0 hr8, m_r1 hr8, m_r2 hr8, m_act hg hk hr hr8, bo_if, bb_X12_coveredBy_71, bb_X12_coveredBy_72]
    by_cases h1 : mr I r 0 = nI e
    · by_cases h2 : mr I r 1 = nI y
      · rw [if_pos h1, if_pos h2]
        cases h3 : mact I (J 201) r with
        | false => simp
        | true => simp [h1, h2]
      · rw [if_pos h1, if_neg h2, if_neg (fun q => h2 q.2.1)]
    · rw [if_neg h1, if_neg (fun q => h1 q.1)]
  · rw [bb_X12_coveredBy_5]
    simp only [ob_s, m_rc, m_R1, m_R2, m_R3, m_R4, m_R5, m_R6, m_R7, m_R8, m_R9, m_F0, m_to3, hc.1.2.2.2]
    rw [if_pos (by rw [li_le (by omega) (by omega)]; omega)]
    simp only [ob_s, m_rc, m_R1, m_R2, m_R3, m_R4, m_R5, m_R6, m_R7, m_R8, m_R9, m_F0, m_reg hw hc.2.2.1 hc.2.2.2.1 he h6, bb_X12_coveredBy_100]
    split <;> rfl
def mbill (I : Nat → Nat → Int32) (f : Nat → Int64) (NY NR e : Nat) : Int32 :=
  sm (fun r => if mr I r 0 = nI e ∧ mact I f r = true then mpay I r else 0) NR + sm (fun y => (mreg f e y - mcov I f NR e y) * mt I y 2) NY + sm (fun i => if rn f i = true ∧ en f i = e ∧ mbd f i ≠ -1 then (f (2 + ty f i)).toInt32 else 0) 12
theorem lp_sumA {ρ : Type} (B : Nat → Int32 → Int32 → Option ρ) (N : Nat) (hN : N < 900000) (g : Nat → Int32) (fin : Int32 → Option ρ) (hs : ∀ n j a, j < N → B (n + 1) (nI j) a = B n (nI j + 1) (a + g j)) (he : ∀ n a, B (n + 1) (nI N) a = fin a) (a : Int32) : B ab_fu 0 a = fin (a + sm g N) := by
  have h := lp_up0 B N hN (fun j b => b + g j) fin hs he a
  rw [h, itr_sum]
theorem m_bill {e : Nat} (hc : mc I NH NY NE NR) (hg : mrg I NH NY NE NR) (hk : isI (J 201 0)) (hw : wfs NH NY NE (J 201)) (he : e < 6) : dd_X12_billOf 200 (nI e) (S0, I, J, x) = some (mbill I (J 201) NY NR e, (S0, I, J, x)) := by
  have h8 := hc.2.2.2.2
  have hy := hc.2.2.1
  unfold dd_X12_billOf
  refine (lp_sum (fun n k a => bb_X12_billOf_4 n 200 (nI e) a k (S0, I, J, x)) NR (by omega) (fun r => if mr I r 0 = nI e ∧ mact I (J 201) r = true then mpay I r else 0) (fun a => bb_X12_billOf_55 ab_fu 200 (nI e) a 0 (S0, I, J, x)) (fun n r a hr => ?_) (fun n a => ?_)).trans ?_
  · have hr8 : r < 8 := by omega
    rw [bb_X12_billOf_4]
    simp only [ob_s, m_rc, m_R1, m_R2, m_R3, m_R4, m_R5, m_R6, m_R7, m_R8, m_R9, m_F0, m_to3, hc.1.2.2.2]
    rw [if_neg (by rw [li_le (by omega) (by omega)]; omega)]
    simp only [ob_s, m_rc, m_R1, m_R2, m_R3, m_R4, m_R5, m_R6, m_R7, m_R8, m_R9, m_F0, m_r0 hr8, m_act hg hk hr hr8, m_pay hg hy hr hr8, bo_if, bb_X12_billOf_44, bb_X12_billOf_45]
    by_cases h1 : mr I r 0 = nI e
    · rw [if_pos h1]
      cases h3 : mact I (J 201) r with
      | false => simp
      | true => simp [h1]
    · rw [if_neg h1, if_neg (fun q => h1 q.1)]
  · rw [bb_X12_billOf_4]
    simp only [ob_s, m_rc, m_R1, m_R2, m_R3, m_R4, m_R5, m_R6, m_R7, m_R8, m_R9, m_F0, m_to3, hc.1.2.2.2]
    rw [if_pos (by rw [li_le (by omega) (by omega)]; omega)]
  refine (lp_sumA (fun n k a => bb_X12_billOf_55 n 200 (nI e) a k (S0, I, J, x)) NY (by omega) (fun y => (mreg (J 201) e y - mcov I (J 201) NR e y) * mt I y 2) (fun a => bb_X12_billOf_100 ab_fu 200 (nI e) a 0 (S0, I, J, x)) (fun n y a hy1 => ?_) (fun n a => ?_) _).trans ?_
  · have hy6 : y < 6 := by omega
    rw [bb_X12_billOf_55]
    simp only [ob_s, m_rc, m_R1, m_R2, m_R3, m_R4, m_R5, m_R6, m_R7, m_R8, m_R9, m_F0, m_to1, hc.1.2.1]
    rw [if_neg (by rw [li_le (by omega) (by omega)]; omega)]
    simp only [ob_s, m_rc, m_R1, m_R2, m_R3, m_R4, m_R5, m_R6, m_R7, m_R8, m_R9, m_F0, m_reg hw hy hc.2.2.2.1 he hy6, m_cov hc hg hk hw he hy6, m_t2 hy6]
  · rw [bb_X12_billOf_55]
    simp only [ob_s, m_rc, m_R1, m_R2, m_R3, m_R4, m_R5, m_R6, m_R7, m_R8, m_R9, m_F0, m_to1, hc.1.2.1]
    rw [if_pos (by rw [li_le (by omega) (by omega)]; omega)]
  refine (lp_sumA (fun n k a => bb_X12_billOf_100 n 200 (nI e) a k (S0, I, J, x)) 12 (by omega) (fun i => if rn (J 201) i = true ∧ en (J 201) i = e ∧ mbd (J 201) i ≠ -1 then (J 201 (2 + ty (J 201) i)).toInt32 else 0) (fun a => some (a, (S0, I, J, x))) (fun n i a hi => ?_) (fun n a => ?_) _)
  · rw [bb_X12_billOf_100, if_neg (li_12 hi)]
    simp only [ob_s, m_rc, m_R1, m_R2, m_R3, m_R4, m_R5, m_R6, m_R7, m_R8, m_R9, m_F0, m_runs hi, bo_if, bb_X12_billOf_152, bb_X12_billOf_153]
    cases hr : rn (J 201) i with
    | false => simp
    | true =>
      have h3 := m_ty (w := 0) hw hy hi hr
      have e2 : (2 : Int32) + nI (ty (J 201) i) = nI (2 + ty (J 201) i) := li_add 2 _
      simp only [ob_s, m_rc, m_R1, m_R2, m_R3, m_R4, m_R5, m_R6, m_R7, m_R8, m_R9, m_F0, m_its0 hi, m_its1 hi, m_its3 hi, m_en hw hc.2.2.2.1 hi hr he, h3.1, e2, m_now (show 2 + ty (J 201) i < 116 by omega)]
      by_cases h1 : en (J 201) i = e
      · by_cases h3 : mbd (J 201) i = -1
        · have h3' : (vi (J 201) i 3).toInt32 = -1 := h3
          simp [h1, h3, h3']
        · have h3' : ¬ (vi (J 201) i 3).toInt32 = -1 := h3
          simp [h1, h3, h3']
      · simp [h1]
  · rw [bb_X12_billOf_100, if_pos li_12e]
def mov (I : Nat → Nat → Int32) (f : Nat → Int64) (e : Nat) : Bool := !(decide (lg_cmp (f (8 + e)) (100 * (I 205 e).toInt64) ≤ 0))
theorem m_over {e : Nat} (he : e < 6) : dd_X12_isOver 200 (nI e) (S0, I, J, x) = some (if mov I (J 201) e then 1 else 0, (S0, I, J, x)) := by
  unfold dd_X12_isOver mov
  have e2 : (8 : Int32) + nI e = nI (8 + e) := li_add 8 _
  simp only [ob_s, m_rc, m_R1, m_R2, m_R3, m_R4, m_R5, m_R6, m_R7, m_R8, m_R9, m_F0, e2, m_now (show 8 + e < 116 by omega), m_budg (show e < 12 by omega)]
  by_cases h : lg_cmp (J 201 (8 + e)) (100 * (I 205 e).toInt64) ≤ 0
  · rw [if_pos h]; simp [h, bb_X12_isOver_29]
  · rw [if_neg h]; simp [h, bb_X12_isOver_29]
end MF
