/-! ===== the cost of a migration ===== -/
section CO
variable {I I' I0 : Nat → Nat → Int32} {J J' : Nat → Nat → Int64} {x : Nat} {NH NY NE NR s d u tp : Nat} {f g : Nat → Int64} {H S : Nat → Nat → Int64} {b : Nat → Bool}
/-- the value of an operand; what an operator does; the values open behind k codes -/
def opn (I : Nat → Nat → Int32) (f : Nat → Int64) (i : Nat) (e : Int32) : Int32 := if e < 100 then (if e = 4 then clk f - (vi f i 5).toInt32 else mt I (ty f i) (e - 1).toNatClampNeg) else e - 100
def jnd (e a c : Int32) : Int32 := if e = -3 then a * c else if e = -2 then a - c else if e = -1 then a + c else if c = 0 then 0 else a / c
def stF (I : Nat → Nat → Int32) (f : Nat → Int64) (i : Nat) (e : Nat → Int32) : Nat → Nat → Int32
  | 0 => fun _ => 0
  | k + 1 => if 0 < e k then (fun j => if j = dpt e k then opn I f i (e k) else stF I f i e k j) else (fun j => if j = dpt e k - 2 then jnd (e k) (stF I f i e k (dpt e k - 2)) (stF I f i e k (dpt e k - 1)) else stF I f i e k j)
theorem st_p {i k : Nat} {e : Nat → Int32} (h : 0 < e k) (j : Nat) : stF I f i e (k + 1) j = if j = dpt e k then opn I f i (e k) else stF I f i e k j := by
  rw [stF, if_pos h]
theorem st_q {i k : Nat} {e : Nat → Int32} (h : ¬ 0 < e k) (j : Nat) : stF I f i e (k + 1) j = if j = dpt e k - 2 then jnd (e k) (stF I f i e k (dpt e k - 2)) (stF I f i e k (dpt e k - 1)) else stF I f i e k j := by
  rw [stF, if_neg h]
theorem dp_p {k : Nat} {e : Nat → Int32} (h : 0 < e k) : dpt e (k + 1) = dpt e k + 1 := by rw [dpt, if_pos h]
theorem dp_q {k : Nat} {e : Nat → Int32} (h : ¬ 0 < e k) : dpt e (k + 1) = dpt e k - 1 := by rw [dpt, if_neg h]
theorem n100_pos {v : Nat} (h : v ≤ 9999) : 0 < nI (100 + v) := by rw [li_0, li_lt (by omega) (by omega)]; omega
/-- operands and operators of the class -/
theorem c_opn (hl : clR I NH NY NE NR) (h6 : NY ≤ 6) {i : Nat} (hy : ty f i < NY) {c e : Int32} (h : cdp c e) (he : 0 < e) : (-4 : Int32) ≤ c ∧ dd_X9_operand c 21 (nI (ty f i)) (clk f - (vi f i 5).toInt32) (S0, I, J, x) = some (opn I f i e, (S0, I, J, x)) := by
  have g : ∀ w, w < 3 → dd_X10_get 21 (nI (ty f i)) (nI w) (S0, I, J, x) = some (mt I (ty f i) w, (S0, I, J, x)) := by
    intro w hw
    have q := cl_gett (J := J) (x := x) cl17 hl.1 (a := nI (ty f i)) (b := nI w) rfl rfl (show ty f i < 6 by omega) hw
    rw [hl.2.2.2.2.1 _ hy w hw] at q
    exact q
  have g0 : dd_X10_get 21 (nI (ty f i)) 0 (S0, I, J, x) = some (mt I (ty f i) 0, (S0, I, J, x)) := g 0 (by omega)
  have g1 : dd_X10_get 21 (nI (ty f i)) 1 (S0, I, J, x) = some (mt I (ty f i) 1, (S0, I, J, x)) := g 1 (by omega)
  have g2 : dd_X10_get 21 (nI (ty f i)) 2 (S0, I, J, x) = some (mt I (ty f i) 2, (S0, I, J, x)) := g 2 (by omega)
  unfold dd_X9_operand opn
  rcases h with ⟨v, hv, rfl, rfl⟩ | ⟨rfl, rfl⟩ | ⟨rfl, rfl⟩ | ⟨rfl, rfl⟩ | ⟨rfl, rfl⟩ | ⟨rfl, rfl⟩ | ⟨rfl, rfl⟩ | ⟨rfl, rfl⟩ | ⟨rfl, rfl⟩
  · have hn : ∀ m : Int32, m < 0 → ¬ nI v = m := fun m hm q => by rw [← q] at hm; exact li_pos (by omega) hm
    have h1 : ¬ nI (100 + v) < 100 := by rw [li_n 100, li_lt (by omega) (by omega)]; omega
    refine ⟨?_, ?_⟩
    · rw [Int32.le_iff_toInt_le, nI_toInt (by omega)]
      show (-4 : Int) ≤ _
      omega
    · rw [if_neg (hn _ (by decide)), if_neg (hn _ (by decide)), if_neg (hn _ (by decide)), if_neg (hn _ (by decide)), if_neg h1, li_n 100, pk_sub (by omega), show 100 + v - 100 = v by omega]
  · refine ⟨by decide, ?_⟩
    rw [if_neg (by decide), if_neg (by decide), if_neg (by decide), if_pos rfl, t_20, ob_s, g0, ob_s, if_pos (by decide), if_neg (by decide)]
    rfl
  · refine ⟨by decide, ?_⟩
    rw [if_neg (by decide), if_neg (by decide), if_pos rfl, t_20, ob_s, g1, ob_s, if_pos (by decide), if_neg (by decide)]
    rfl
  · refine ⟨by decide, ?_⟩
    rw [if_neg (by decide), if_pos rfl, t_20, ob_s, g2, ob_s, if_pos (by decide), if_neg (by decide)]
    rfl
  · refine ⟨by decide, ?_⟩
    rw [if_pos rfl, if_pos (by decide), if_pos rfl]
  all_goals exact absurd he (by decide)
theorem c_app {c e : Int32} (h : cdp c e) (he : ¬ 0 < e) (a d : Int32) (m : ab_Mm) : ¬ (-4 : Int32) ≤ c ∧ dd_X9_apply (-c) a d m = some (jnd e a d, m) := by
  have e44 : bb_X9_apply_44 a d m = some (if d = 0 then 0 else a / d, m) := by
    unfold bb_X9_apply_44
    by_cases hd : d = 0
    · rw [if_pos hd, if_pos hd]; rfl
    · rw [if_neg hd, if_neg hd, if_neg hd]; rfl
  unfold dd_X9_apply jnd
  rcases h with ⟨v, hv, rfl, rfl⟩ | ⟨rfl, rfl⟩ | ⟨rfl, rfl⟩ | ⟨rfl, rfl⟩ | ⟨rfl, rfl⟩ | ⟨rfl, rfl⟩ | ⟨rfl, rfl⟩ | ⟨rfl, rfl⟩ | ⟨rfl, rfl⟩
  · exact absurd (n100_pos hv) he
  · exact absurd (by decide) he
  · exact absurd (by decide) he
  · exact absurd (by decide) he
  · exact absurd (by decide) he
  · refine ⟨by decide, ?_⟩
    rw [if_neg (by decide), if_pos (by decide), if_neg (by decide), if_neg (by decide), if_pos rfl]
  · refine ⟨by decide, ?_⟩
    rw [if_neg (by decide), if_neg (by decide), if_neg (by decide), if_pos (by decide), if_neg (by decide), if_pos rfl]
  · refine ⟨by decide, ?_⟩
    rw [if_pos (by decide), if_pos rfl]
  · refine ⟨by decide, ?_⟩
    rw [if_neg (by decide), if_neg (by decide), if_neg (by decide), if_neg (by decide), e44]
    have hj : (if (-4 : Int32) = -3 then a * d else if (-4 : Int32) = -2 then a - d else if (-4 : Int32) = -1 then a + d else if d = 0 then 0 else a / d) = if d = 0 then 0 else a / d := by
      rw [if_neg (by decide), if_neg (by decide), if_neg (by decide)]
    rw [hj]
theorem clR_30 (hl : clR I NH NY NE NR) (h1 : ∀ r, 18 ≤ r → r < 31 → I' r = I r) (s2 : sam 201 207 I I') : clR I' NH NY NE NR := by
  unfold clR clI tI gh gt ge gr gg mh mt mr at hl ⊢
  simp only [Nat.reduceAdd] at hl ⊢
  rw [h1 19 (by omega) (by omega), h1 21 (by omega) (by omega), h1 23 (by omega) (by omega), h1 25 (by omega) (by omega), h1 27 (by omega) (by omega), h1 20 (by omega) (by omega), h1 22 (by omega) (by omega), h1 24 (by omega) (by omega), h1 26 (by omega) (by omega), h1 28 (by omega) (by omega), s2 202 (by omega) (by omega), s2 203 (by omega) (by omega), s2 204 (by omega) (by omega), s2 205 (by omega) (by omega), s2 206 (by omega) (by omega)]
  exact hl
theorem m_jnd (e a d : Int32) (m : ab_Mm) : dd_X12_joined e a d m = some (jnd e a d, m) := by
  unfold dd_X12_joined jnd
  by_cases h1 : e = -3
  · rw [if_pos h1, if_pos h1]
  · rw [if_neg h1, if_neg h1]
    by_cases h2 : e = -2
    · rw [if_pos h2, if_pos h2]
    · rw [if_neg h2, if_neg h2]
      by_cases h3 : e = -1
      · rw [if_pos h3, if_pos h3]
      · rw [if_neg h3, if_neg h3]
        by_cases hd : d = 0
        · rw [if_pos hd, if_pos hd]; rfl
        · rw [if_neg hd, if_neg hd, if_neg hd]; rfl
theorem okS : ok_X9 29 := rfl
theorem sh_29 : S0[30]? = some (1, 800, []) := rfl
theorem sh_30 : S0[31]? = some (1, 16, []) := rfl
theorem sh_205 : S0[207]? = some (1, 2, []) := rfl
theorem sh_206 : S0[208]? = some (1, 1640, []) := rfl
theorem sh_208 : S0[210]? = some (1, 40, []) := rfl
theorem m_R21 : ab_fR (S0, I, J, x) 12 200 21 = some 210 := fR_X12_21 okM
theorem dpt_le {c e : Nat → Int32} {n : Nat} (h : cdN c e n) : ∀ k, k ≤ n → dpt e k ≤ 13
  | 0, _ => Nat.zero_le _
  | k + 1, hk => by
    have ih := dpt_le h k (by omega)
    have q := h.1 k (by omega)
    by_cases he : 0 < e k
    · rw [dp_p he]; have := q.2.1 he; omega
    · rw [dp_q he]; omega
/-- the value of a sum: the class -/
theorem c_value (hl : clR I NH NY NE NR) (h6 : NY ≤ 6) {i n : Nat} (hy : ty f i < NY) (hn8 : n ≤ 800) (hn : I 29 1 = nI n) (hd : cdN (I 30) (I 208) n) :
    ∃ I', dd_X9_value 29 21 (nI (ty f i)) (clk f - (vi f i 5).toInt32) (S0, I, J, x) = some (stF I f i (I 208) n 0, (S0, I', J, x)) ∧ ∀ r, r ≠ 31 → I' r = I r := by
  have loop : ∀ (k q j : Nat) (I1 : Nat → Nat → Int32), j + k = n → k < q → (∀ r, r ≠ 31 → I1 r = I r) → (∀ m, m < dpt (I 208) j → I1 31 m = stF I f i (I 208) j m) →
      ∃ I', bb_X9_value_6 q 29 21 (nI (ty f i)) (clk f - (vi f i 5).toInt32) (nI (dpt (I 208) j)) (nI j) (S0, I1, J, x) = some (stF I f i (I 208) n 0, (S0, I', J, x)) ∧ ∀ r, r ≠ 31 → I' r = I r := by
    intro k
    induction k with
    | zero =>
      intro q j I1 h1 h2 ho ha
      obtain ⟨q, rfl⟩ : ∃ z, q = z + 1 := ⟨q - 1, by omega⟩
      have ej : j = n := by omega
      subst ej
      have e28 : I1 29 1 = nI j := by rw [ho 29 (by omega)]; exact hn
      refine ⟨I1, ?_, ho⟩
      rw [bb_X9_value_6, fI_X9_1 okS, ob_s, e28, if_pos (le_self _), bb_X9_value_130, hd.2, if_pos (show nI 1 = 1 from rfl), fR_X9_2 okS, ob_s]
      show ((ab_ld (S0, I1, J, x) 1 31 0).bind _) = _
      rw [op_ld (i := 0) (j := 0) sh_30 li_0 (by omega) (by omega), ob_s, ha 0 (by rw [hd.2]; omega)]
      rfl
    | succ k ih =>
      intro q j I1 h1 h2 ho ha
      obtain ⟨q, rfl⟩ : ∃ z, q = z + 1 := ⟨q - 1, by omega⟩
      have e28 : I1 29 1 = nI n := by rw [ho 29 (by omega)]; exact hn
      have q0 := hd.1 j (by omega)
      have hl1 : clR I1 NH NY NE NR := clR_30 hl (fun r a c => ho r (by omega)) (fun r a c => ho r (by omega))
      have dle := dpt_le hd j (by omega)
      have e29 : I1 30 = I 30 := ho 30 (by omega)
      have em : ∀ w, mt I1 (ty f i) w = mt I (ty f i) w := fun w => by unfold mt; rw [ho 204 (by omega)]
      rw [bb_X9_value_6, fI_X9_1 okS, ob_s, e28, if_neg (by rw [li_le (by omega) (by omega)]; omega), fR_X9_0 okS, ob_s]
      show ∃ I', ((ab_len (S0, I1, J, x) 1 30).bind _) = _ ∧ _
      rw [op_len sh_29, ob_s, if_neg (by rw [li_le (by omega) (by omega)]; omega), ob_s]
      show ∃ I', ((ab_ld (S0, I1, J, x) 1 30 (nI j)).bind _) = _ ∧ _
      rw [op_ld sh_29 rfl (by omega) (by omega), ob_s, e29]
      by_cases he : 0 < I 208 j
      · have hlt := q0.2.1 he
        have cq := c_opn (f := f) (J := J) (x := x) hl1 h6 (i := i) hy q0.1 he
        have eo : opn I1 f i (I 208 j) = opn I f i (I 208 j) := by unfold opn; rw [em]
        rw [eo] at cq
        rw [if_pos cq.1, fR_X9_2 okS, ob_s]
        show ∃ I', ((ab_len (S0, I1, J, x) 1 31).bind _) = _ ∧ _
        rw [op_len sh_30, ob_s, if_neg (by rw [li_le (by omega) (by omega)]; omega), ob_s, cq.2, ob_s]
        show ∃ I', ((ab_st (S0, I1, J, x) 1 31 (nI (dpt (I 208) j)) (opn I f i (I 208 j))).bind _) = _ ∧ _
        rw [op_st _ sh_30 rfl (by omega) (by omega), ob_s, bb_X9_value_124, nI_1, nI_1, ← dp_p he]
        refine ih q (j + 1) _ (by omega) (by omega) (fun r hr => (u_r hr).trans (ho r hr)) (fun m hm => ?_)
        rw [st_p he]
        by_cases em2 : m = dpt (I 208) j
        · rw [if_pos em2, em2, u_e]
        · rw [if_neg em2, u_k em2]
          rw [dp_p he] at hm
          exact ha m (by omega)
      · have h2d := q0.2.2 he
        have cq := fun a d => c_app q0.1 he a d (S0, I1, J, x)
        have e2 : nI (dpt (I 208) j) - 2 = nI (dpt (I 208) j - 2) := by rw [li_n 2, pk_sub h2d]
        have e1 : nI (dpt (I 208) j) - 1 = nI (dpt (I 208) j - 1) := by rw [li_n 1, pk_sub (by omega)]
        have e3 : nI (dpt (I 208) j) + -1 = nI (dpt (I 208) j - 1) := by
          rw [show dpt (I 208) j = (dpt (I 208) j - 1) + 1 by omega, pk_m1]
          rfl
        rw [if_neg (cq 0 0).1, if_neg (by rw [li_n 2, li_lt (by omega) (by omega)]; omega), fR_X9_2 okS, ob_s]
        show ∃ I', ((ab_len (S0, I1, J, x) 1 31).bind _) = _ ∧ _
        rw [op_len sh_30, ob_s, if_neg (by rw [li_lt (by omega) (by omega)]; omega), ob_s, ob_s, e2]
        show ∃ I', ((ab_ld (S0, I1, J, x) 1 31 (nI (dpt (I 208) j - 2))).bind _) = _ ∧ _
        rw [op_ld sh_30 rfl (by omega) (by omega), ob_s, ob_s, e1]
        show ∃ I', ((ab_ld (S0, I1, J, x) 1 31 (nI (dpt (I 208) j - 1))).bind _) = _ ∧ _
        rw [op_ld sh_30 rfl (by omega) (by omega), ob_s, (cq _ _).2, ob_s]
        show ∃ I', ((ab_st (S0, I1, J, x) 1 31 (nI (dpt (I 208) j - 2)) _).bind _) = _ ∧ _
        rw [op_st _ sh_30 rfl (by omega) (by omega), ob_s, bb_X9_value_124, nI_1, e3, ← dp_q he]
        refine ih q (j + 1) _ (by omega) (by omega) (fun r hr => (u_r hr).trans (ho r hr)) (fun m hm => ?_)
        rw [st_q he, ← ha (dpt (I 208) j - 2) (by omega), ← ha (dpt (I 208) j - 1) (by omega)]
        by_cases em2 : m = dpt (I 208) j - 2
        · rw [if_pos em2, em2, u_e, dp_q he]
        · rw [if_neg em2, u_k em2]
          rw [dp_q he] at hm
          exact ha m (by omega)
  exact loop n ab_fu 0 I (by omega) (ab_fu_big (by omega)) (fun _ _ => rfl) (fun m hm => absurd hm (Nat.not_lt_zero m))
/-- the cost of a migration -/
def cstF (I : Nat → Nat → Int32) (f : Nat → Int64) (i n : Nat) : Int32 := if 0 < stF I f i (I 208) n 0 then stF I f i (I 208) n 0 else 0
theorem c_moveCost (ht : siT s) (hl : clR I NH NY NE NR) (h6 : NY ≤ 6) (hr : sr I NY s f) (hw : wfs NH NY NE f) {i n : Nat} (hi : i < 12) (hrn : rn f i = true) (hn8 : n ≤ 800) (hn : I 29 1 = nI n) (hd : cdN (I 30) (I 208) n) :
    ∃ I', dd_X8_moveCost s 18 (nI i) (S0, I, J, x) = some (cstF I f i n, (S0, I', J, x)) ∧ ∀ r, r ≠ 31 → I' r = I r := by
  have q := hr.2.2.2.1 i hi hrn
  have w := hw i hi hrn
  have hy : ty f i < NY := w.2.1.2
  have ey : gi I s i 1 = nI (ty f i) := q.2.1.trans (isn_32 w.2.1)
  obtain ⟨I', e, o⟩ := @c_value I J x NH NY NE NR f hl h6 i n hy hn8 hn hd
  refine ⟨I', ?_, o⟩
  have d5 : ab_fR (S0, I, J, x) 1 18 5 = some 29 := op_fR cl17.1 rfl
  unfold dd_X8_moveCost
  rw [fI_X8_0 ht.1, ob_s, fR_X8_2 ht.1, ob_s, rc_X10 ht.2.1.1, ob_s, si_get ht hr.1 rfl (li_n 5) hi (by omega), ob_s, d5, ob_s, d_R1, ob_s, fR_X8_2 ht.1, ob_s, rc_X10 ht.2.1.1, ob_s, si_get ht hr.1 rfl (li_n 1) hi (by omega), ob_s, rc_X9 okS, ob_s, hr.2.1, q.2.2.2.2.2, ey, e, ob_s]
  rfl
theorem m_costOf (hy6 : NY ≤ 6) {i n : Nat} (hi : i < 12) (hy : ty f i < NY) (ht : (vi f i 1).toInt32 = nI (ty f i)) (hn8 : n ≤ 800) (hn : I 207 0 = nI n) (hd : cdN (I 30) (I 208) n) :
    ∃ I', dd_X12_costOf 200 (nI i) (S0, I, jr J f, x) = some (cstF I f i n, (S0, I', jr J f, x)) ∧ ∀ r, r ≠ 210 → I' r = I r := by
  have loop : ∀ (k q j : Nat) (I1 : Nat → Nat → Int32), j + k = n → k < q → (∀ r, r ≠ 210 → I1 r = I r) → (∀ m, m < dpt (I 208) j → I1 210 m = stF I f i (I 208) j m) →
      ∃ I', bb_X12_costOf_4 q 200 (nI i) (nI (dpt (I 208) j)) (nI j) (S0, I1, jr J f, x) = some (cstF I f i n, (S0, I', jr J f, x)) ∧ ∀ r, r ≠ 210 → I' r = I r := by
    intro k
    induction k with
    | zero =>
      intro q j I1 h1 h2 ho ha
      obtain ⟨q, rfl⟩ : ∃ z, q = z + 1 := ⟨q - 1, by omega⟩
      have ej : j = n := by omega
      subst ej
      have e205 : I1 207 0 = nI j := by rw [ho 207 (by omega)]; exact hn
      have a0 := ha 0 (by rw [hd.2]; omega)
      refine ⟨I1, ?_, ho⟩
      rw [bb_X12_costOf_4, m_R7, ob_s, op_ld (i := 0) (j := 0) sh_205 li_0 (by omega) (by omega), ob_s, e205, if_pos (le_self _), m_R21, ob_s, op_ld (i := 0) (j := 0) sh_208 li_0 (by omega) (by omega), ob_s, a0]
      unfold cstF
      by_cases h0 : 0 ≤ stF I f i (I 208) j 0
      · rw [if_pos h0, ob_s, op_ld (i := 0) (j := 0) sh_208 li_0 (by omega) (by omega), ob_s, a0]
        by_cases h1 : 0 < stF I f i (I 208) j 0
        · rw [if_pos h1]; rfl
        · rw [if_neg h1]
          have : stF I f i (I 208) j 0 = 0 := Int32.le_antisymm (Int32.not_lt.mp h1) h0
          rw [this]; rfl
      · rw [if_neg h0, if_neg (fun w => h0 (Int32.le_of_lt w))]; rfl
    | succ k ih =>
      intro q j I1 h1 h2 ho ha
      obtain ⟨q, rfl⟩ : ∃ z, q = z + 1 := ⟨q - 1, by omega⟩
      have e205 : I1 207 0 = nI n := by rw [ho 207 (by omega)]; exact hn
      have e206 : I1 208 j = I 208 j := by rw [ho 208 (by omega)]
      have q0 := hd.1 j (by omega)
      have dle := dpt_le hd j (by omega)
      rw [bb_X12_costOf_4, m_R7, ob_s, op_ld (i := 0) (j := 0) sh_205 li_0 (by omega) (by omega), ob_s, e205, if_neg (by rw [li_le (by omega) (by omega)]; omega), m_R8, ob_s, op_ld sh_206 rfl (by omega) (by omega), ob_s, e206]
      by_cases he : 0 < I 208 j
      · have hlt := q0.2.1 he
        have fin : ∀ v : Int32, v = opn I f i (I 208 j) → ∃ I', bb_X12_costOf_92 (bb_X12_costOf_4 q) 200 (nI i) (nI (dpt (I 208) j)) (nI j) 210 (nI (dpt (I 208) j)) v (S0, I1, jr J f, x) = some (cstF I f i n, (S0, I', jr J f, x)) ∧ ∀ r, r ≠ 210 → I' r = I r := by
          intro v hv
          rw [bb_X12_costOf_92, op_st _ sh_208 rfl (by omega) (by omega), ob_s, bb_X12_costOf_129, nI_1, nI_1, ← dp_p he]
          refine ih q (j + 1) _ (by omega) (by omega) (fun r hr => (u_r hr).trans (ho r hr)) (fun m hm => ?_)
          rw [st_p he]
          by_cases em2 : m = dpt (I 208) j
          · rw [if_pos em2, em2, u_e, hv]
          · rw [if_neg em2, u_k em2]
            rw [dp_p he] at hm
            exact ha m (by omega)
        rw [if_neg (Int32.not_le.mpr he), m_R21, ob_s]
        have hc := q0.1
        generalize I 208 j = e at he hc fin ⊢
        unfold opn at fin
        have et : ∀ w : Nat, w < 3 → ab_ld (S0, I1, jr J f, x) 1 204 (nI (3 * ty f i + w)) = some (mt I (ty f i) w) := fun w hw => by
          rw [m_types (by omega)]
          unfold mt
          rw [ho 204 (by omega)]
        have e3 : (3 : Int32) * nI (ty f i) = nI (3 * ty f i) := li_mul 3 _
        rcases hc with ⟨v, hv, _, rfl⟩ | ⟨_, rfl⟩ | ⟨_, rfl⟩ | ⟨_, rfl⟩ | ⟨_, rfl⟩ | ⟨_, rfl⟩ | ⟨_, rfl⟩ | ⟨_, rfl⟩ | ⟨_, rfl⟩
        · have h1 : ¬ nI (100 + v) < 100 := by rw [li_n 100, li_lt (by omega) (by omega)]; omega
          rw [if_neg h1]
          exact fin _ (by rw [if_neg h1])
        · have e4 : nI (3 * ty f i) + (1 : Int32) - 1 = nI (3 * ty f i + 0) := by rw [nI_1, li_n 1, pk_sub (by omega)]; rfl
          rw [if_pos (by decide), if_neg (by decide), m_R4, ob_s, m_rc, ob_s, m_its1J hi, ob_s, ht, e3, e4, et 0 (by omega), ob_s]
          exact fin _ (by rw [if_pos (by decide), if_neg (by decide)]; rfl)
        · have e4 : nI (3 * ty f i) + (2 : Int32) - 1 = nI (3 * ty f i + 1) := by rw [li_n 2, li_add, li_n 1, pk_sub (by omega)]; rfl
          rw [if_pos (by decide), if_neg (by decide), m_R4, ob_s, m_rc, ob_s, m_its1J hi, ob_s, ht, e3, e4, et 1 (by omega), ob_s]
          exact fin _ (by rw [if_pos (by decide), if_neg (by decide)]; rfl)
        · have e4 : nI (3 * ty f i) + (3 : Int32) - 1 = nI (3 * ty f i + 2) := by rw [li_n 3, li_add, li_n 1, pk_sub (by omega)]; rfl
          rw [if_pos (by decide), if_neg (by decide), m_R4, ob_s, m_rc, ob_s, m_its1J hi, ob_s, ht, e3, e4, et 2 (by omega), ob_s]
          exact fin _ (by rw [if_pos (by decide), if_neg (by decide)]; rfl)
        · rw [if_pos (by decide), if_pos rfl, m_R1, ob_s, m_n0J, ob_s, ob_s, m_of5, ob_s, m_viJ hi (by omega), ob_s]
          exact fin _ (by rw [if_pos (by decide), if_pos rfl, Int64.toInt32_sub]; rfl)
        all_goals exact absurd he (by decide)
      · have h2d := q0.2.2 he
        have e3 : nI (dpt (I 208) j) + -1 = nI (dpt (I 208) j - 1) := by
          rw [show dpt (I 208) j = (dpt (I 208) j - 1) + 1 by omega, pk_m1]
          rfl
        have e4 : nI (dpt (I 208) j - 1) - 1 = nI (dpt (I 208) j - 2) := by rw [li_n 1, pk_sub (by omega)]; rfl
        rw [if_pos (Int32.not_lt.mp he), m_R21, ob_s, ob_s, e3, e4, op_ld sh_208 rfl (by omega) (by omega), ob_s, ob_s, op_ld sh_208 rfl (by omega) (by omega), ob_s, m_jnd, ob_s, op_st _ sh_208 rfl (by omega) (by omega), ob_s, bb_X12_costOf_129, nI_1, ← dp_q he]
        refine ih q (j + 1) _ (by omega) (by omega) (fun r hr => (u_r hr).trans (ho r hr)) (fun m hm => ?_)
        rw [st_q he, ← ha (dpt (I 208) j - 2) (by omega), ← ha (dpt (I 208) j - 1) (by omega)]
        by_cases em2 : m = dpt (I 208) j - 2
        · rw [if_pos em2, em2, u_e, dp_q he]
        · rw [if_neg em2, u_k em2]
          rw [dp_q he] at hm
          exact ha m (by omega)
  exact loop n ab_fu 0 I (by omega) (ab_fu_big (by omega)) (fun _ _ => rfl) (fun m hm => absurd hm (Nat.not_lt_zero m))
end CO
