/-! ===== what the class's questions answer (reads) ===== -/
/-- what is free of a host -/
def lf (I : Nat → Nat → Int32) (c s h f : Nat) : Int32 := gh I c h f - gl I s h f
def fitB (I : Nat → Nat → Int32) (c s y h : Nat) : Bool := !(decide (lf I c s h 0 < gt I c y 0)) && !(decide (lf I c s h 1 < gt I c y 1))
/-- the best host so far and its rest -/
def bestS (I : Nat → Nat → Int32) (c s y n : Nat) : Int32 × Int32 := itr (fun h a => if fitB I c s y h = true then (if a.1 = -1 then (nI h, lf I c s h 0 + lf I c s h 1) else if a.2 ≤ lf I c s h 0 + lf I c s h 1 then a else (nI h, lf I c s h 0 + lf I c s h 1)) else a) 0 n (-1, 0)
def regS (I : Nat → Nat → Int32) (s : Nat) (e y : Int32) : Int32 := sm (fun j => if ru I s j = true ∧ gi I s j 0 = e ∧ gi I s j 1 = y ∧ gi I s j 2 = -1 then 1 else 0) 12
def manyS (I : Nat → Nat → Int32) (s : Nat) (y : Int32) : Int32 := sm (fun j => if ru I s j = true ∧ gi I s j 1 = y then 1 else 0) 12
def useS (I : Nat → Nat → Int32) (s : Nat) : Int32 := sm (fun h => if gl I s h 0 ≤ 0 then 0 else 1) 8
def actB (I : Nat → Nat → Int32) (c k : Nat) (t : Int32) : Bool := !(decide (t < gr I c k 3)) && !(decide (gr I c k 4 ≤ t))
def payS (I : Nat → Nat → Int32) (c k y : Nat) : Int32 := gr I c k 2 * ((gt I c y 2 * (100 - gr I c k 5)) / 100)
def rsvS (I : Nat → Nat → Int32) (c n : Nat) (e y t : Int32) : Int32 := sm (fun k => if gr I c k 0 = e ∧ gr I c k 1 = y ∧ actB I c k t = true then gr I c k 2 else 0) n
def prcS (I : Nat → Nat → Int32) (c y : Nat) (u : Int32) : Int32 := if ((gt I c y 2 * (gg I c 0 + ((gg I c 2 * u) / 100))) / 100) < gt I c y 2 then ((gt I c y 2 * (gg I c 0 + ((gg I c 2 * u) / 100))) / 100) else gt I c y 2
theorem n100 : ¬ (100 : Int32) = 0 := by decide
theorem lp_sum {ρ : Type} (B : Nat → Int32 → Int32 → Option ρ) (N : Nat) (hN : N < 900000) (g : Nat → Int32) (fin : Int32 → Option ρ) (hs : ∀ n j a, j < N → B (n + 1) (nI j) a = B n (nI j + 1) (a + g j)) (he : ∀ n a, B (n + 1) (nI N) a = fin a) : B ab_fu 0 0 = fin (sm g N) := by
  have h := lp_up0 B N hN (fun j b => b + g j) fin hs he 0
  rw [h, itr_sum, Int32.zero_add]
section RE
variable {s c : Nat} {I : Nat → Nat → Int32} {J : Nat → Nat → Int64} {x : Nat}
theorem si_left (hs : siT s) (hI : siI I s) (hc : clT c) (hC : clI I c) {h f : Nat} {a b : Int32} (ha : a = nI h) (hb : b = nI f) (hh : h < 8) (hf : f < 2) : dd_X8_left s c a b (S0, I, J, x) = some (lf I c s h f, (S0, I, J, x)) := by
  unfold dd_X8_left
  simp only [fR_X1_0 hc.1, ob_s, rc_X10 hc.2.1.1, cl_geth hc hC ha hb hh hf, fR_X8_5 hs.1, rc_X10 hs.2.2.2.2.1.1, si_getl hs hI ha hb hh hf]
  rfl
theorem si_fits (hs : siT s) (hI : siI I s) (hc : clT c) (hC : clI I c) {y h : Nat} {a b : Int32} (ha : a = nI y) (hb : b = nI h) (hy : y < 6) (hh : h < 8) : dd_X8_fits s c a b (S0, I, J, x) = some (if fitB I c s y h then 1 else 0, (S0, I, J, x)) := by
  unfold dd_X8_fits fitB
  simp only [fR_X1_1 hc.1, ob_s, rc_X10 hc.2.2.1.1, cl_gett hc hC ha li_0 hy (by omega : 0 < 3), rc_X8 hs.1, si_left hs hI hc hC hb li_0 hh (by omega : 0 < 2)]
  by_cases h1 : lf I c s h 0 < gt I c y 0
  · rw [if_pos h1]; simp [h1, bb_X8_fits_42, bb_X8_fits_43]
  · rw [if_neg h1]
    simp only [fR_X1_1 hc.1, ob_s, rc_X10 hc.2.2.1.1, cl_gett hc hC ha (li_n 1) hy (by omega : 1 < 3), rc_X8 hs.1, si_left hs hI hc hC hb (li_n 1) hh (by omega : 1 < 2)]
    by_cases h2 : lf I c s h 1 < gt I c y 1
    · rw [if_pos h2]; simp [h1, h2, bb_X8_fits_42, bb_X8_fits_43]
    · rw [if_neg h2]; simp [h1, h2, bb_X8_fits_43]
theorem bo_if (b : Bool) : ((if b then (1 : Int32) else 0) = 0) = (b = false) := by cases b <;> simp
theorem si_best (hs : siT s) (hI : siI I s) (hc : clT c) (hC : clI I c) {y n : Nat} {a : Int32} (ha : a = nI y) (hy : y < 6) (hn : I (c + 1) 3 = nI n) (hn8 : n ≤ 8) : dd_X8_tightestHost s c a (S0, I, J, x) = some ((bestS I c s y n).1, (S0, I, J, x)) := by
  unfold dd_X8_tightestHost bestS
  refine lp_up0 (fun k i b => bb_X8_tightestHost_8 k s c a b.1 b.2 i (S0, I, J, x)) n (by omega) _ (fun b => some (b.1, (S0, I, J, x))) (fun k j b hj => ?_) (fun k b => ?_) ((-1 : Int32), (0 : Int32))
  · rw [bb_X8_tightestHost_8, fR_X1_0 hc.1, ob_s, fI_X10_3 hc.2.1.1, ob_s, hn, if_neg (by rw [li_le (by omega) (by omega)]; omega), rc_X8 hs.1, ob_s, si_fits hs hI hc hC ha rfl hy (by omega), ob_s]
    simp only [bo_if]
    cases hf : fitB I c s y j with
    | false => simp [bb_X8_tightestHost_69]
    | true =>
      simp only [rc_X8 hs.1, ob_s, si_left hs hI hc hC rfl li_0 (by omega : j < 8) (by omega : 0 < 2), si_left hs hI hc hC rfl (li_n 1) (by omega : j < 8) (by omega : 1 < 2)]
      by_cases h1 : b.1 = -1
      · simp [h1, bb_X8_tightestHost_62, bb_X8_tightestHost_69]
      · by_cases h2 : b.2 ≤ lf I c s j 0 + lf I c s j 1
        · simp [h1, h2, bb_X8_tightestHost_69]
        · simp [h1, h2, bb_X8_tightestHost_62, bb_X8_tightestHost_69]
  · rw [bb_X8_tightestHost_8, fR_X1_0 hc.1, ob_s, fI_X10_3 hc.2.1.1, ob_s, hn, if_pos (by rw [li_le (by omega) (by omega)]; omega)]
theorem si_reg (hs : siT s) (hI : siI I s) (e y : Int32) : dd_X8_regulars s e y (S0, I, J, x) = some (regS I s e y, (S0, I, J, x)) := by
  unfold dd_X8_regulars regS
  refine lp_sum (fun n k a => bb_X8_regulars_5 n s e y a k (S0, I, J, x)) 12 (by decide) _ (fun a => some (a, (S0, I, J, x))) (fun n j a hj => ?_) (fun n a => ?_)
  · rw [bb_X8_regulars_5, if_neg (li_12 hj), fR_X8_2 hs.1, ob_s, rc_X10 hs.2.1.1, ob_s, si_get hs hI rfl li_0 hj (by omega), ob_s]
    by_cases h1 : gi I s j 0 = e
    · rw [if_pos h1]
      simp only [fR_X8_2 hs.1, ob_s, rc_X10 hs.2.1.1, si_get hs hI rfl (li_n 1) hj (by omega : 1 < 6)]
      by_cases h2 : gi I s j 1 = y
      · rw [if_pos h2, bb_X8_regulars_45, rc_X8 hs.1, ob_s, si_runsN hs hj, ob_s]
        simp only [bo_if]
        cases hr : ru I s j with
        | false => simp [bb_X8_regulars_78]
        | true =>
          simp only [fR_X8_2 hs.1, ob_s, rc_X10 hs.2.1.1, si_get hs hI rfl (li_n 2) hj (by omega : 2 < 6)]
          by_cases h3 : gi I s j 2 = -1
          · simp [h1, h2, h3, bb_X8_regulars_78]
          · simp [h1, h2, h3, bb_X8_regulars_78]
      · rw [if_neg h2, bb_X8_regulars_44, bb_X8_regulars_45, rc_X8 hs.1, ob_s, si_runsN hs hj, ob_s]
        simp only [bo_if]
        cases hr : ru I s j <;> simp [h2, bb_X8_regulars_78]
    · rw [if_neg h1, bb_X8_regulars_44, bb_X8_regulars_45, rc_X8 hs.1, ob_s, si_runsN hs hj, ob_s]
      simp only [bo_if]
      cases hr : ru I s j <;> simp [h1, bb_X8_regulars_78]
  · rw [bb_X8_regulars_5, if_pos li_12e]
theorem si_many (hs : siT s) (hI : siI I s) (y : Int32) : dd_X8_manyOf s y (S0, I, J, x) = some (manyS I s y, (S0, I, J, x)) := by
  unfold dd_X8_manyOf manyS
  refine lp_sum (fun n k a => bb_X8_manyOf_4 n s y a k (S0, I, J, x)) 12 (by decide) _ (fun a => some (a, (S0, I, J, x))) (fun n j a hj => ?_) (fun n a => ?_)
  · rw [bb_X8_manyOf_4, if_neg (li_12 hj), rc_X8 hs.1, ob_s, si_runsN hs hj, ob_s]
    simp only [bo_if]
    cases hr : ru I s j with
    | false => simp [bb_X8_manyOf_36, bb_X8_manyOf_37]
    | true =>
      simp only [fR_X8_2 hs.1, ob_s, rc_X10 hs.2.1.1, si_get hs hI rfl (li_n 1) hj (by omega : 1 < 6)]
      by_cases h2 : gi I s j 1 = y
      · simp [h2, bb_X8_manyOf_37]
      · simp [h2, bb_X8_manyOf_36, bb_X8_manyOf_37]
  · rw [bb_X8_manyOf_4, if_pos li_12e]
theorem si_use (hs : siT s) (hI : siI I s) : dd_X8_hostsInUse s (S0, I, J, x) = some (useS I s, (S0, I, J, x)) := by
  unfold dd_X8_hostsInUse useS
  refine lp_sum (fun n k a => bb_X8_hostsInUse_4 n s a k (S0, I, J, x)) 8 (by decide) _ (fun a => some (a, (S0, I, J, x))) (fun n j a hj => ?_) (fun n a => ?_)
  · rw [bb_X8_hostsInUse_4, if_neg (by rw [li_n 8, li_le (by omega) (by omega)]; omega), fR_X8_5 hs.1, ob_s, rc_X10 hs.2.2.2.2.1.1, ob_s, si_getl hs hI rfl li_0 hj (by omega), ob_s]
    by_cases h2 : gl I s j 0 ≤ 0
    · simp [h2, bb_X8_hostsInUse_28]
    · simp [h2, bb_X8_hostsInUse_28]
  · rw [bb_X8_hostsInUse_4, if_pos (by decide)]
theorem si_spent (hs : siT s) {e : Nat} {a : Int32} (ha : a = nI e) (he : e < 6) : dd_X8_spentBy s a (S0, I, J, x) = some (J (s + 9) e, (S0, I, J, x)) := by
  subst ha
  unfold dd_X8_spentBy
  rw [if_neg (li_pos (by omega))]
  simp only [fR_X8_6 hs.1, ob_s, op_len hs.2.2.2.2.2]
  rw [if_neg (by rw [li_le (by omega) (by omega)]; omega), op_ldJ hs.2.2.2.2.2 rfl he (by omega)]
  rfl
theorem si_charge (hs : siT s) {e : Nat} {a : Int32} (v : Int32) (ha : a = nI e) (he : e < 6) : dd_X8_charge s a v (S0, I, J, x) = some ((), (S0, I, ab_u J (s + 9) e (J (s + 9) e + v.toInt64), x)) := by
  subst ha
  unfold dd_X8_charge
  rw [if_neg (li_pos (by omega))]
  simp only [fR_X8_6 hs.1, ob_s, op_len hs.2.2.2.2.2]
  rw [if_neg (by rw [li_le (by omega) (by omega)]; omega), op_ldJ hs.2.2.2.2.2 rfl he (by omega), ob_s, op_stJ _ hs.2.2.2.2.2 rfl he (by omega)]
  rfl
def ovB (I : Nat → Nat → Int32) (J : Nat → Nat → Int64) (c s e : Nat) : Bool := !(decide (lg_cmp (J (s + 9) e) (100 * (ge I c e).toInt64) ≤ 0))
theorem si_over (hs : siT s) (hc : clT c) (hC : clI I c) {e : Nat} {a : Int32} (ha : a = nI e) (he : e < 6) : dd_X8_isOver s c a (S0, I, J, x) = some (if ovB I J c s e then 1 else 0, (S0, I, J, x)) := by
  unfold dd_X8_isOver ovB
  simp only [rc_X8 hs.1, ob_s, si_spent hs ha he, fR_X1_2 hc.1, rc_X10 hc.2.2.2.1.1, cl_gete hc hC ha rfl he]
  by_cases h : lg_cmp (J (s + 9) e) (100 * (ge I c e).toInt64) ≤ 0
  · rw [if_pos h]; simp [h, bb_X8_isOver_28]
  · rw [if_neg h]; simp [h, bb_X8_isOver_28]
theorem si_roomOn (hs : siT s) (hI : siI I s) (hc : clT c) (hC : clI I c) {y h : Nat} {a b : Int32} (ha : a = nI h) (hb : b = nI y) (hy : y < 6) (hh : h < 8) (h0 : 0 < gt I c y 0) (h1 : 0 < gt I c y 1) : dd_X8_roomOn s c a b (S0, I, J, x) = some (if lf I c s h 1 / gt I c y 1 < lf I c s h 0 / gt I c y 0 then lf I c s h 1 / gt I c y 1 else lf I c s h 0 / gt I c y 0, (S0, I, J, x)) := by
  unfold dd_X8_roomOn
  have e0 : ¬ gt I c y 0 ≤ 0 := Int32.not_le.mpr h0
  have e1 : ¬ gt I c y 0 = 0 := fun q => by rw [q] at h0; exact absurd h0 (by decide)
  have e2 : ¬ gt I c y 1 = 0 := fun q => by rw [q] at h1; exact absurd h1 (by decide)
  simp only [fR_X1_1 hc.1, ob_s, rc_X10 hc.2.2.1.1, cl_gett hc hC hb li_0 hy (by omega : 0 < 3), cl_gett hc hC hb (li_n 1) hy (by omega : 1 < 3)]
  rw [if_neg e0, if_pos h1]
  simp only [rc_X8 hs.1, ob_s, si_left hs hI hc hC ha li_0 hh (by omega : 0 < 2), si_left hs hI hc hC ha (li_n 1) hh (by omega : 1 < 2), if_neg e1, if_neg e2]
theorem cl_act (hc : clT c) (hC : clI I c) {k : Nat} {a : Int32} (t : Int32) (ha : a = nI k) (hk : k < 8) : dd_X1_isActive c a t (S0, I, J, x) = some (if actB I c k t then 1 else 0, (S0, I, J, x)) := by
  unfold dd_X1_isActive actB
  simp only [fR_X1_3 hc.1, ob_s, rc_X10 hc.2.2.2.2.1.1, cl_getr hc hC ha (li_n 3) hk (by omega : 3 < 6), cl_getr hc hC ha (li_n 4) hk (by omega : 4 < 6)]
  by_cases h1 : t < gr I c k 3
  · rw [if_pos h1]; simp [h1, bb_X1_isActive_30, bb_X1_isActive_31]
  · rw [if_neg h1]
    by_cases h2 : gr I c k 4 ≤ t
    · rw [if_pos h2]; simp [h1, h2, bb_X1_isActive_30, bb_X1_isActive_31]
    · rw [if_neg h2]; simp [h1, h2, bb_X1_isActive_31]
theorem cl_pay (hc : clT c) (hC : clI I c) {k y : Nat} {a : Int32} (ha : a = nI k) (hk : k < 8) (hy : gr I c k 1 = nI y) (hy6 : y < 6) : dd_X1_payment c a (S0, I, J, x) = some (payS I c k y, (S0, I, J, x)) := by
  unfold dd_X1_payment payS
  simp only [fR_X1_1 hc.1, fR_X1_3 hc.1, ob_s, rc_X10 hc.2.2.2.2.1.1, rc_X10 hc.2.2.1.1, cl_getr hc hC ha (li_n 1) hk (by omega : 1 < 6), cl_gett hc hC hy (li_n 2) hy6 (by omega : 2 < 3), cl_getr hc hC ha (li_n 5) hk (by omega : 5 < 6), cl_getr hc hC ha (li_n 2) hk (by omega : 2 < 6), if_neg n100]
theorem cl_rsv (hc : clT c) (hC : clI I c) {n : Nat} (e y t : Int32) (hn : I (c + 7) 3 = nI n) (hn8 : n ≤ 8) : dd_X1_reserved c e y t (S0, I, J, x) = some (rsvS I c n e y t, (S0, I, J, x)) := by
  unfold dd_X1_reserved rsvS
  refine lp_sum (fun k i a => bb_X1_reserved_6 k c e y t a i (S0, I, J, x)) n (by omega) _ (fun a => some (a, (S0, I, J, x))) (fun k j a hj => ?_) (fun k a => ?_)
  · have h8 : j < 8 := by omega
    rw [bb_X1_reserved_6, fR_X1_3 hc.1, ob_s, fI_X10_3 hc.2.2.2.2.1.1, ob_s, hn, if_neg (by rw [li_le (by omega) (by omega)]; omega)]
    simp only [fR_X1_3 hc.1, ob_s, rc_X10 hc.2.2.2.2.1.1, cl_getr hc hC rfl li_0 h8 (by omega : 0 < 6), cl_getr hc hC rfl (li_n 1) h8 (by omega : 1 < 6)]
    by_cases h1 : gr I c j 0 = e
    · rw [if_pos h1]
      by_cases h2 : gr I c j 1 = y
      · rw [if_pos h2, bb_X1_reserved_51, if_neg (by decide), rc_X1 hc.1, ob_s, cl_act hc hC t rfl h8, ob_s]
        simp only [bo_if]
        cases ha : actB I c j t with
        | false => simp [bb_X1_reserved_83]
        | true =>
          simp only [fR_X1_3 hc.1, ob_s, rc_X10 hc.2.2.2.2.1.1, cl_getr hc hC rfl (li_n 2) h8 (by omega : 2 < 6)]
          simp [h1, h2, bb_X1_reserved_83]
      · rw [if_neg h2, bb_X1_reserved_50, bb_X1_reserved_51, if_pos rfl]; simp [h2, bb_X1_reserved_83]
    · rw [if_neg h1, bb_X1_reserved_50, bb_X1_reserved_51, if_pos rfl]; simp [h1, bb_X1_reserved_83]
  · rw [bb_X1_reserved_6, fR_X1_3 hc.1, ob_s, fI_X10_3 hc.2.2.2.2.1.1, ob_s, hn, if_pos (by rw [li_le (by omega) (by omega)]; omega)]
theorem cl_prc (hc : clT c) (hC : clI I c) {y : Nat} {a : Int32} (u : Int32) (ha : a = nI y) (hy : y < 6) : dd_X1_priceAt c a u (S0, I, J, x) = some (prcS I c y u, (S0, I, J, x)) := by
  unfold dd_X1_priceAt prcS
  simp only [fR_X1_4 hc.1, fR_X1_1 hc.1, ob_s, rc_X10 hc.2.2.2.2.2.1.1, rc_X10 hc.2.2.1.1, cl_getg hc hC rfl li_0 (by omega : 0 < 3), cl_getg hc hC rfl (li_n 2) (by omega : 2 < 3), cl_gett hc hC ha (li_n 2) hy (by omega : 2 < 3), if_neg n100]
end RE
