/-! ===== the model: its memory, its reads ===== -/
theorem okM : ok_X12 200 := rfl
section MD
variable {I : Nat → Nat → Int32} {J : Nat → Nat → Int64} {x : Nat}
theorem m_rc : ab_rc (S0, I, J, x) 12 200 = some () := rc_X12 okM
theorem m_R1 : ab_fR (S0, I, J, x) 12 200 1 = some 201 := fR_X12_1 okM
theorem m_R2 : ab_fR (S0, I, J, x) 12 200 2 = some 202 := fR_X12_2 okM
theorem m_R3 : ab_fR (S0, I, J, x) 12 200 3 = some 203 := fR_X12_3 okM
theorem m_R4 : ab_fR (S0, I, J, x) 12 200 4 = some 204 := fR_X12_4 okM
theorem m_R5 : ab_fR (S0, I, J, x) 12 200 5 = some 205 := fR_X12_5 okM
theorem m_R6 : ab_fR (S0, I, J, x) 12 200 6 = some 206 := fR_X12_6 okM
theorem m_R7 : ab_fR (S0, I, J, x) 12 200 7 = some 207 := fR_X12_7 okM
theorem m_R8 : ab_fR (S0, I, J, x) 12 200 8 = some 208 := fR_X12_8 okM
theorem m_R9 : ab_fR (S0, I, J, x) 12 200 9 = some 209 := fR_X12_9 okM
theorem m_F0 : ab_fI (S0, I, J, x) 12 200 0 = some (I 200 0) := fI_X12_0 okM
theorem sh_199 : S0[201]? = some (4, 116, []) := rfl
theorem sh_200 : S0[202]? = some (1, 14, []) := rfl
theorem sh_201 : S0[203]? = some (1, 32, []) := rfl
theorem sh_202 : S0[204]? = some (1, 36, []) := rfl
theorem sh_203 : S0[205]? = some (1, 12, []) := rfl
theorem sh_204 : S0[206]? = some (1, 96, []) := rfl
theorem m_now {j : Nat} (h : j < 116) : ab_ldJ (S0, I, J, x) 201 (nI j) = some (J 201 j) := op_ldJ sh_199 rfl h (by omega)
theorem m_snow {j : Nat} (v : Int64) (h : j < 116) : ab_stJ (S0, I, J, x) 201 (nI j) v = some (S0, I, ab_u J 201 j v, x) := op_stJ v sh_199 rfl h (by omega)
theorem m_told {j : Nat} (h : j < 14) : ab_ld (S0, I, J, x) 1 202 (nI j) = some (I 202 j) := op_ld sh_200 rfl h (by omega)
theorem m_hosts {j : Nat} (h : j < 32) : ab_ld (S0, I, J, x) 1 203 (nI j) = some (I 203 j) := op_ld sh_201 rfl h (by omega)
theorem m_types {j : Nat} (h : j < 36) : ab_ld (S0, I, J, x) 1 204 (nI j) = some (I 204 j) := op_ld sh_202 rfl h (by omega)
theorem m_budg {j : Nat} (h : j < 12) : ab_ld (S0, I, J, x) 1 205 (nI j) = some (I 205 j) := op_ld sh_203 rfl h (by omega)
theorem m_resv {j : Nat} (h : j < 96) : ab_ld (S0, I, J, x) 1 206 (nI j) = some (I 206 j) := op_ld sh_204 rfl h (by omega)
theorem m_to0 : ab_ld (S0, I, J, x) 1 202 0 = some (I 202 0) := m_told (j := 0) (by omega)
theorem m_to1 : ab_ld (S0, I, J, x) 1 202 1 = some (I 202 1) := m_told (j := 1) (by omega)
theorem m_to2 : ab_ld (S0, I, J, x) 1 202 2 = some (I 202 2) := m_told (j := 2) (by omega)
theorem m_to3 : ab_ld (S0, I, J, x) 1 202 3 = some (I 202 3) := m_told (j := 3) (by omega)
theorem m_to4 : ab_ld (S0, I, J, x) 1 202 4 = some (I 202 4) := m_told (j := 4) (by omega)
theorem m_to5 : ab_ld (S0, I, J, x) 1 202 5 = some (I 202 5) := m_told (j := 5) (by omega)
theorem m_to6 : ab_ld (S0, I, J, x) 1 202 6 = some (I 202 6) := m_told (j := 6) (by omega)
theorem m_n0 : ab_ldJ (S0, I, J, x) 201 0 = some (J 201 0) := m_now (j := 0) (by omega)
theorem m_n1 : ab_ldJ (S0, I, J, x) 201 1 = some (J 201 1) := m_now (j := 1) (by omega)
/-! indexes -/
theorem li_mul (a b : Nat) : nI a * nI b = nI (a * b) := pk_mul a b
theorem li_add (a b : Nat) : nI a + nI b = nI (a + b) := nI_add a b
theorem m_of0 {i : Nat} {m : ab_Mm} : dd_X12_of (nI i) 0 m = some (nI (14 + 6 * i + 0), m) := by
  unfold dd_X12_of
  rw [li_n 14, li_n 6, li_0, li_mul, li_add, li_add]
theorem m_of1 {i : Nat} {m : ab_Mm} : dd_X12_of (nI i) 1 m = some (nI (14 + 6 * i + 1), m) := by
  unfold dd_X12_of
  rw [li_n 14, li_n 6, li_n 1, li_mul, li_add, li_add]
theorem m_of2 {i : Nat} {m : ab_Mm} : dd_X12_of (nI i) 2 m = some (nI (14 + 6 * i + 2), m) := by
  unfold dd_X12_of
  rw [li_n 14, li_n 6, li_n 2, li_mul, li_add, li_add]
theorem m_of3 {i : Nat} {m : ab_Mm} : dd_X12_of (nI i) 3 m = some (nI (14 + 6 * i + 3), m) := by
  unfold dd_X12_of
  rw [li_n 14, li_n 6, li_n 3, li_mul, li_add, li_add]
theorem m_of4 {i : Nat} {m : ab_Mm} : dd_X12_of (nI i) 4 m = some (nI (14 + 6 * i + 4), m) := by
  unfold dd_X12_of
  rw [li_n 14, li_n 6, li_n 4, li_mul, li_add, li_add]
theorem m_of5 {i : Nat} {m : ab_Mm} : dd_X12_of (nI i) 5 m = some (nI (14 + 6 * i + 5), m) := by
  unfold dd_X12_of
  rw [li_n 14, li_n 6, li_n 5, li_mul, li_add, li_add]
theorem x2 {i : Nat} : (2 : Int32) * nI i = nI (2 * i + 0) := by rw [li_n 2, li_mul]; rfl
theorem x2a {i : Nat} : nI (2 * i + 0) + (1 : Int32) = nI (2 * i + 1) := by rw [li_n 1, li_add]
theorem x2z {i : Nat} : nI (2 * i + 0) + (0 : Int32) = nI (2 * i + 0) := by rw [li_0, li_add]
theorem x3 {i : Nat} : (3 : Int32) * nI i = nI (3 * i + 0) := by rw [li_n 3, li_mul]; rfl
theorem x3z {i : Nat} : nI (3 * i + 0) + (0 : Int32) = nI (3 * i + 0) := by rw [li_0, li_add]
theorem x3a {i : Nat} : nI (3 * i + 0) + (1 : Int32) = nI (3 * i + 1) := by rw [li_n 1, li_add]
theorem x3b {i : Nat} : nI (3 * i + 0) + (2 : Int32) = nI (3 * i + 2) := by rw [li_n 2, li_add]
theorem x6 {i : Nat} : (6 : Int32) * nI i = nI (6 * i + 0) := by rw [li_n 6, li_mul]; rfl
theorem x6a {i : Nat} : nI (6 * i + 0) + (1 : Int32) = nI (6 * i + 1) := by rw [li_n 1, li_add]
theorem x6b {i : Nat} : nI (6 * i + 0) + (2 : Int32) = nI (6 * i + 2) := by rw [li_n 2, li_add]
theorem x6c {i : Nat} : nI (6 * i + 0) + (3 : Int32) = nI (6 * i + 3) := by rw [li_n 3, li_add]
theorem x6d {i : Nat} : nI (6 * i + 0) + (4 : Int32) = nI (6 * i + 4) := by rw [li_n 4, li_add]
theorem x6e {i : Nat} : nI (6 * i + 0) + (5 : Int32) = nI (6 * i + 5) := by rw [li_n 5, li_add]
theorem lc_eq {a b : Int64} : (lg_cmp a b = 0) = (a = b) := by
  unfold lg_cmp
  by_cases h : a > b
  · have h' : b < a := h
    have : a ≠ b := fun e => by rw [e] at h'; exact Int64.lt_irrefl h'
    simp [h, this]
  · by_cases h2 : a = b
    · simp [h2, Int64.lt_irrefl]
    · simp [h, h2]
theorem lc_lt {a b : Int64} : (lg_cmp a b < 0) = (a < b) := by
  unfold lg_cmp
  rw [Int64.lt_iff_toInt_lt]
  by_cases h : a > b
  · have h' : b.toInt < a.toInt := Int64.lt_iff_toInt_lt.mp h
    simp [h] <;> omega
  · have h' : ¬ b.toInt < a.toInt := fun q => h (Int64.lt_iff_toInt_lt.mpr q)
    by_cases h2 : a = b
    · simp [h2, Int64.lt_irrefl]
    · have h3 : a.toInt ≠ b.toInt := fun q => h2 (Int64.toInt_inj.mp q)
      simp [h, h2]; omega
theorem lc_gt {a b : Int64} : (0 < lg_cmp a b) = (b < a) := by
  unfold lg_cmp
  by_cases h : a > b
  · have h' : b < a := h
    simp [h]
  · have h' : ¬ b < a := h
    by_cases h2 : a = b
    · simp [h2, Int64.lt_irrefl]
    · simp [h, h2]
/-- a cell of an instance; whether it runs -/
def vi (f : Nat → Int64) (i w : Nat) : Int64 := f (14 + 6 * i + w)
def rn (f : Nat → Int64) (i : Nat) : Bool := !decide (vi f i 0 = -1)
/-- a natural number that lies in a long -/
def nv (v : Int64) : Nat := v.toInt32.toNatClampNeg
def isn (v : Int64) (n : Nat) : Prop := v = (nI (nv v)).toInt64 ∧ nv v < n
def isI (v : Int64) : Prop := v = v.toInt32.toInt64
def en (f : Nat → Int64) (i : Nat) : Nat := nv (vi f i 0)
def ty (f : Nat → Int64) (i : Nat) : Nat := nv (vi f i 1)
def ho (f : Nat → Int64) (i : Nat) : Nat := nv (vi f i 2)
/-- numbers: hosts, types, tenants, reservations -/
def mc (I : Nat → Nat → Int32) (NH NY NE NR : Nat) : Prop := (I 202 0 = nI NH ∧ I 202 1 = nI NY ∧ I 202 2 = nI NE ∧ I 202 3 = nI NR) ∧ NH ≤ 8 ∧ NY ≤ 6 ∧ NE ≤ 6 ∧ NR ≤ 8
def wfi (NH NY NE : Nat) (f : Nat → Int64) (i : Nat) : Prop := isn (vi f i 0) NE ∧ isn (vi f i 1) NY ∧ isn (vi f i 2) NH ∧ isI (vi f i 3) ∧ isI (vi f i 4) ∧ isI (vi f i 5)
theorem nv_n {n : Nat} (h : n < 2 ^ 31) : nv (nI n).toInt64 = n := by
  unfold nv
  rw [Int32.toInt32_toInt64]
  exact nI_clamp h
theorem isn_32 {v : Int64} {n : Nat} (h : isn v n) : v.toInt32 = nI (nv v) := by
  have e := congrArg Int64.toInt32 h.1
  rw [Int32.toInt32_toInt64] at e
  exact e
theorem isn_lt {v : Int64} {n : Nat} (h : isn v n) : nv v < n := h.2
theorem j_inj {a b : Int32} : (a.toInt64 = b.toInt64) = (a = b) := propext ⟨fun h => by have := congrArg Int64.toInt32 h; rwa [Int32.toInt32_toInt64, Int32.toInt32_toInt64] at this, fun h => by rw [h]⟩
theorem m_vi {i w : Nat} (h : i < 12) (hw : w < 6) : ab_ldJ (S0, I, J, x) 201 (nI (14 + 6 * i + w)) = some (vi (J 201) i w) := m_now (by omega)
theorem m_its0 {i : Nat} (h : i < 12) : dd_X12_its 200 (nI i) 0 (S0, I, J, x) = some ((vi (J 201) i 0).toInt32, (S0, I, J, x)) := by
  unfold dd_X12_its
  simp (disch := omega) only [ob_s, m_rc, m_R1, m_R2, m_R3, m_R4, m_R5, m_R6, m_R7, m_R8, m_R9, m_F0, m_of0, m_of1, m_of2, m_of3, m_of4, m_of5, x2, x2a, x3, x3a, x3b, x6, x6a, x6b, x6c, x6d, x6e, m_now]; rfl
theorem m_its1 {i : Nat} (h : i < 12) : dd_X12_its 200 (nI i) 1 (S0, I, J, x) = some ((vi (J 201) i 1).toInt32, (S0, I, J, x)) := by
  unfold dd_X12_its
  simp (disch := omega) only [ob_s, m_rc, m_R1, m_R2, m_R3, m_R4, m_R5, m_R6, m_R7, m_R8, m_R9, m_F0, m_of0, m_of1, m_of2, m_of3, m_of4, m_of5, x2, x2a, x3, x3a, x3b, x6, x6a, x6b, x6c, x6d, x6e, m_now]; rfl
theorem m_its2 {i : Nat} (h : i < 12) : dd_X12_its 200 (nI i) 2 (S0, I, J, x) = some ((vi (J 201) i 2).toInt32, (S0, I, J, x)) := by
  unfold dd_X12_its
  simp (disch := omega) only [ob_s, m_rc, m_R1, m_R2, m_R3, m_R4, m_R5, m_R6, m_R7, m_R8, m_R9, m_F0, m_of0, m_of1, m_of2, m_of3, m_of4, m_of5, x2, x2a, x3, x3a, x3b, x6, x6a, x6b, x6c, x6d, x6e, m_now]; rfl
theorem m_its3 {i : Nat} (h : i < 12) : dd_X12_its 200 (nI i) 3 (S0, I, J, x) = some ((vi (J 201) i 3).toInt32, (S0, I, J, x)) := by
  unfold dd_X12_its
  simp (disch := omega) only [ob_s, m_rc, m_R1, m_R2, m_R3, m_R4, m_R5, m_R6, m_R7, m_R8, m_R9, m_F0, m_of0, m_of1, m_of2, m_of3, m_of4, m_of5, x2, x2a, x3, x3a, x3b, x6, x6a, x6b, x6c, x6d, x6e, m_now]; rfl
theorem m_its4 {i : Nat} (h : i < 12) : dd_X12_its 200 (nI i) 4 (S0, I, J, x) = some ((vi (J 201) i 4).toInt32, (S0, I, J, x)) := by
  unfold dd_X12_its
  simp (disch := omega) only [ob_s, m_rc, m_R1, m_R2, m_R3, m_R4, m_R5, m_R6, m_R7, m_R8, m_R9, m_F0, m_of0, m_of1, m_of2, m_of3, m_of4, m_of5, x2, x2a, x3, x3a, x3b, x6, x6a, x6b, x6c, x6d, x6e, m_now]; rfl
theorem m_runs {i : Nat} (h : i < 12) : dd_X12_runs 200 (nI i) (S0, I, J, x) = some (if rn (J 201) i then 1 else 0, (S0, I, J, x)) := by
  unfold dd_X12_runs rn
  simp (disch := omega) only [ob_s, m_rc, m_R1, m_R2, m_R3, m_R4, m_R5, m_R6, m_R7, m_R8, m_R9, m_F0, m_of0, m_of1, m_of2, m_of3, m_of4, m_of5, x2, x2a, x3, x3a, x3b, x6, x6a, x6b, x6c, x6d, x6e, m_vi, lc_eq]
  by_cases h1 : vi (J 201) i 0 = -1
  · rw [if_pos h1]; simp [h1, bb_X12_runs_22]
  · rw [if_neg h1]; simp [h1, bb_X12_runs_22]
theorem m_isOnG {i : Nat} (a : Int32) (h : i < 12) : dd_X12_isOn 200 (nI i) a (S0, I, J, x) = some (if rn (J 201) i = true ∧ vi (J 201) i 2 = a.toInt64 then 1 else 0, (S0, I, J, x)) := by
  unfold dd_X12_isOn
  simp (disch := omega) only [ob_s, m_rc, m_R1, m_R2, m_R3, m_R4, m_R5, m_R6, m_R7, m_R8, m_R9, m_F0, m_runs, bo_if]
  cases hr : rn (J 201) i with
  | false => simp [bb_X12_isOn_28, bb_X12_isOn_29]
  | true =>
    simp (disch := omega) only [ob_s, m_rc, m_R1, m_R2, m_R3, m_R4, m_R5, m_R6, m_R7, m_R8, m_R9, m_F0, m_of0, m_of1, m_of2, m_of3, m_of4, m_of5, x2, x2a, x3, x3a, x3b, x6, x6a, x6b, x6c, x6d, x6e, m_vi, lc_eq]
    by_cases h1 : vi (J 201) i 2 = a.toInt64
    · simp [h1, bb_X12_isOn_28, bb_X12_isOn_29]
    · simp [h1, bb_X12_isOn_28, bb_X12_isOn_29]
/-! what is free -/
def mt (I : Nat → Nat → Int32) (y w : Nat) : Int32 := I 204 (3 * y + w)
def mh (I : Nat → Nat → Int32) (h w : Nat) : Int32 := I 203 (2 * h + w)
def wfs (NH NY NE : Nat) (f : Nat → Int64) : Prop := ∀ i, i < 12 → rn f i = true → wfi NH NY NE f i
/-- what the instances on a host take -/
def lod (I : Nat → Nat → Int32) (f : Nat → Int64) (h w : Nat) : Int32 := sm (fun i => if rn f i = true ∧ ho f i = h then mt I (ty f i) w else 0) 12
def fre (I : Nat → Nat → Int32) (f : Nat → Int64) (h w : Nat) : Int32 := mh I h w - lod I f h w
theorem itr_sub (g : Nat → Int32) : ∀ (n : Nat) (a : Int32), itr (fun j b => b - g j) 0 n a = a - sm g n
  | 0, a => by rw [itr, sm]; grind
  | n + 1, a => by
    rw [itr_last, itr_sub g n a, Nat.zero_add, sm]
    grind
theorem m_isOn {NH NY NE i h : Nat} (hw : wfs NH NY NE (J 201)) (hn : NH ≤ 8) (hi : i < 12) (hh : h < 8) : dd_X12_isOn 200 (nI i) (nI h) (S0, I, J, x) = some (if rn (J 201) i = true ∧ ho (J 201) i = h then 1 else 0, (S0, I, J, x)) := by
  rw [m_isOnG _ hi]
  cases hr : rn (J 201) i with
  | false => simp
  | true =>
    have h2 := (hw i hi hr).2.2.1
    have e : (vi (J 201) i 2 = (nI h).toInt64) = (ho (J 201) i = h) := by
      rw [h2.1, j_inj, li_eq (by have := h2.2; omega) (by omega)]
      rfl
    simp [e]
theorem m_ty {NH NY NE i w : Nat} (hw : wfs NH NY NE (J 201)) (hn : NY ≤ 6) (hi : i < 12) (hr : rn (J 201) i = true) : (vi (J 201) i 1).toInt32 = nI (ty (J 201) i) ∧ ty (J 201) i < 6 := by
  have h2 := (hw i hi hr).2.1
  exact ⟨isn_32 h2, Nat.lt_of_lt_of_le h2.2 hn⟩
theorem m_freeG {NH NY NE h w : Nat} {a : Int32} (ha : a = nI w) (hw : wfs NH NY NE (J 201)) (hn : NH ≤ 8) (hy : NY ≤ 6) (hh : h < 8) (hw2 : w < 2) : dd_X12_freeOf 200 (nI h) a (S0, I, J, x) = some (fre I (J 201) h w, (S0, I, J, x)) := by
  subst ha
  unfold dd_X12_freeOf
  simp (disch := omega) only [ob_s, m_rc, m_R1, m_R2, m_R3, m_R4, m_R5, m_R6, m_R7, m_R8, m_R9, m_F0, x2, li_add, m_hosts]
  refine (lp_up0 (fun n k b => bb_X12_freeOf_14 n 200 (nI h) (nI w) b k (S0, I, J, x)) 12 (by decide) (fun i b => b - (if rn (J 201) i = true ∧ ho (J 201) i = h then mt I (ty (J 201) i) w else 0)) (fun b => some (b, (S0, I, J, x))) (fun n j b hj => ?_) (fun n b => ?_) _).trans ?_
  · show bb_X12_freeOf_14 _ _ _ _ _ _ _ = _
    rw [bb_X12_freeOf_14, if_neg (li_12 hj)]
    simp only [ob_s, m_rc, m_R1, m_R2, m_R3, m_R4, m_R5, m_R6, m_R7, m_R8, m_R9, m_F0, m_isOn hw hn hj hh]
    by_cases hc : rn (J 201) j = true ∧ ho (J 201) j = h
    · have h3 := m_ty (w := 0) hw hy hj hc.1
      rw [if_pos hc, if_neg (by decide)]
      simp (disch := omega) only [ob_s, m_rc, m_R1, m_R2, m_R3, m_R4, m_R5, m_R6, m_R7, m_R8, m_R9, m_F0, m_its1, h3.1, x3, li_add, m_types, bb_X12_freeOf_52, if_pos hc]
      rfl
    · rw [if_neg hc, if_pos rfl]
      simp only [bb_X12_freeOf_52, if_neg hc]
  · show bb_X12_freeOf_14 _ _ _ _ _ _ _ = _
    rw [bb_X12_freeOf_14, if_pos li_12e]
  · rw [itr_sub]
    rfl
theorem m_free0 {NH NY NE h : Nat} (hw : wfs NH NY NE (J 201)) (hn : NH ≤ 8) (hy : NY ≤ 6) (hh : h < 8) : dd_X12_freeOf 200 (nI h) 0 (S0, I, J, x) = some (fre I (J 201) h 0, (S0, I, J, x)) := m_freeG li_0 hw hn hy hh (by omega)
theorem m_free1 {NH NY NE h : Nat} (hw : wfs NH NY NE (J 201)) (hn : NH ≤ 8) (hy : NY ≤ 6) (hh : h < 8) : dd_X12_freeOf 200 (nI h) 1 (S0, I, J, x) = some (fre I (J 201) h 1, (S0, I, J, x)) := m_freeG (li_n 1) hw hn hy hh (by omega)
def mfit (I : Nat → Nat → Int32) (f : Nat → Int64) (y h : Nat) : Bool := !(decide (fre I f h 0 < mt I y 0)) && !(decide (fre I f h 1 < mt I y 1))
theorem m_fits {NH NY NE y h : Nat} (hw : wfs NH NY NE (J 201)) (hn : NH ≤ 8) (hy : NY ≤ 6) (h6 : y < 6) (hh : h < 8) : dd_X12_fits 200 (nI y) (nI h) (S0, I, J, x) = some (if mfit I (J 201) y h then 1 else 0, (S0, I, J, x)) := by
  unfold dd_X12_fits mfit
  have e0 : ab_ld (S0, I, J, x) 1 204 (3 * nI y) = some (mt I y 0) := by rw [x3, m_types (by omega)]; rfl
  have e1 : ab_ld (S0, I, J, x) 1 204 (3 * nI y + 1) = some (mt I y 1) := by rw [x3, x3a, m_types (by omega)]; rfl
  simp only [ob_s, m_rc, m_R1, m_R2, m_R3, m_R4, m_R5, m_R6, m_R7, m_R8, m_R9, m_F0, e0, e1, m_free0 hw hn hy hh, m_free1 hw hn hy hh]
  by_cases h1 : fre I (J 201) h 0 < mt I y 0
  · rw [if_pos h1]; simp [h1, bb_X12_fits_40, bb_X12_fits_41]
  · rw [if_neg h1]
    by_cases h2 : fre I (J 201) h 1 < mt I y 1
    · rw [if_pos h2]; simp [h1, h2, bb_X12_fits_40, bb_X12_fits_41]
    · rw [if_neg h2]; simp [h1, h2, bb_X12_fits_41]
/-- the best host so far and its rest -/
def mbest (I : Nat → Nat → Int32) (f : Nat → Int64) (y n : Nat) : Int32 × Int32 := itr (fun h a => if mfit I f y h = true then (if a.2 ≤ fre I f h 0 + fre I f h 1 then a else (nI h, fre I f h 0 + fre I f h 1)) else a) 0 n (-1, 2147483647)
theorem m_best {NH NY NE NR y : Nat} (hc : mc I NH NY NE NR) (hw : wfs NH NY NE (J 201)) (h6 : y < 6) : dd_X12_bestFor 200 (nI y) (S0, I, J, x) = some ((mbest I (J 201) y NH).1, (S0, I, J, x)) := by
  have hn := hc.2.1
  have hy := hc.2.2.1
  unfold dd_X12_bestFor mbest
  refine lp_up0 (fun n k b => bb_X12_bestFor_9 n 200 (nI y) b.1 b.2 k (S0, I, J, x)) NH (by omega) _ (fun b => some (b.1, (S0, I, J, x))) (fun n j b hj => ?_) (fun n b => ?_) ((-1 : Int32), (2147483647 : Int32))
  · have h8 : j < 8 := by omega
    rw [bb_X12_bestFor_9]
    simp only [ob_s, m_rc, m_R1, m_R2, m_R3, m_R4, m_R5, m_R6, m_R7, m_R8, m_R9, m_F0, m_to0, hc.1.1]
    rw [if_neg (by rw [li_le (by omega) (by omega)]; omega)]
    simp only [ob_s, m_rc, m_R1, m_R2, m_R3, m_R4, m_R5, m_R6, m_R7, m_R8, m_R9, m_F0, m_free0 hw hn hy h8, m_free1 hw hn hy h8, m_fits hw hn hy h6 h8, bo_if, bb_X12_bestFor_59]
    cases hf : mfit I (J 201) y j with
    | false => simp
    | true =>
      by_cases h2 : b.2 ≤ fre I (J 201) j 0 + fre I (J 201) j 1
      · simp [h2]
      · simp [h2]
  · rw [bb_X12_bestFor_9]
    simp only [ob_s, m_rc, m_R1, m_R2, m_R3, m_R4, m_R5, m_R6, m_R7, m_R8, m_R9, m_F0, m_to0, hc.1.1]
    rw [if_pos (by rw [li_le (by omega) (by omega)]; omega)]
def mall (I : Nat → Nat → Int32) (n : Nat) : Int32 := sm (fun h => mh I h 0) n
theorem m_all {NH NY NE NR : Nat} (hc : mc I NH NY NE NR) : dd_X12_allCpu 200 (S0, I, J, x) = some (mall I NH, (S0, I, J, x)) := by
  have hn := hc.2.1
  unfold dd_X12_allCpu mall
  refine lp_sum (fun n k b => bb_X12_allCpu_4 n 200 b k (S0, I, J, x)) NH (by omega) _ (fun b => some (b, (S0, I, J, x))) (fun n j b hj => ?_) (fun n b => ?_)
  · have e0 : ab_ld (S0, I, J, x) 1 203 (2 * nI j) = some (mh I j 0) := by rw [x2, m_hosts (by omega)]; rfl
    rw [bb_X12_allCpu_4]
    simp only [ob_s, m_rc, m_R1, m_R2, m_R3, m_R4, m_R5, m_R6, m_R7, m_R8, m_R9, m_F0, m_to0, hc.1.1, e0]
    rw [if_neg (by rw [li_le (by omega) (by omega)]; omega)]
  · rw [bb_X12_allCpu_4]
    simp only [ob_s, m_rc, m_R1, m_R2, m_R3, m_R4, m_R5, m_R6, m_R7, m_R8, m_R9, m_F0, m_to0, hc.1.1]
    rw [if_pos (by rw [li_le (by omega) (by omega)]; omega)]
def mload (I : Nat → Nat → Int32) (f : Nat → Int64) : Int32 := sm (fun i => if rn f i = true then mt I (ty f i) 0 else 0) 12
theorem m_load {NH NY NE : Nat} (hw : wfs NH NY NE (J 201)) (hy : NY ≤ 6) : dd_X12_loadCpu 200 (S0, I, J, x) = some (mload I (J 201), (S0, I, J, x)) := by
  unfold dd_X12_loadCpu mload
  refine lp_sum (fun n k b => bb_X12_loadCpu_4 n 200 b k (S0, I, J, x)) 12 (by omega) _ (fun b => some (b, (S0, I, J, x))) (fun n j b hj => ?_) (fun n b => ?_)
  · rw [bb_X12_loadCpu_4, if_neg (li_12 hj)]
    simp only [ob_s, m_rc, m_R1, m_R2, m_R3, m_R4, m_R5, m_R6, m_R7, m_R8, m_R9, m_F0, m_runs hj, bo_if]
    cases hr : rn (J 201) j with
    | false => simp [bb_X12_loadCpu_36]
    | true =>
      have h3 := m_ty (w := 0) hw hy hj hr
      have e0 : ab_ld (S0, I, J, x) 1 204 (3 * nI (ty (J 201) j)) = some (mt I (ty (J 201) j) 0) := by rw [x3, m_types (by omega)]; rfl
      simp only [ob_s, m_rc, m_R1, m_R2, m_R3, m_R4, m_R5, m_R6, m_R7, m_R8, m_R9, m_F0, m_its1 hj, h3.1, e0, bb_X12_loadCpu_36]
      simp
  · rw [bb_X12_loadCpu_4, if_pos li_12e]
end MD
